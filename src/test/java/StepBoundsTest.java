/** The sentences of STATES AND PLACES, and of the promises 24 to 36, that name a boundary: a method for each. */
public final class StepBoundsTest {
    private static final int BEAM = 0;
    private static final int TABLE = 1;
    private static final int WING = 2;
    private static final int GAUGE = 3;
    private static final int FLANGE = 4;

    public static void main(String[] args) {
        atFirstNoBendIsMade();
        withoutLegsOrBendsThereIsNoStep();
        theFirstAndTheLastStep();
        allBitsOfMadeAndPossible();
        theSumOfTheCosts();
        straightOnOverABendThatIsNotMade();
        aRightAngleInEachDirection();
        aBendThatIsDownFlipsTheSheet();
        aMadeBendAsIfItWereNot();
        theBeamOverTheFreeSide();
        theBeamOverTheClampedSide();
        theTableUnderTheClampedSide();
        theTableBehindTheFreeSide();
        theEdgesToTheFront();
        theWingBesideTheFreeSide();
        theWingIsNotHitByTheClampedSide();
        toolsWithoutDepthOrHeight();
        toolsAtTheirGreatest();
        allLegsAsBits();
        theFlangeAndTheLegNextToTheBend();
        theGaugeIsLeastToMost();
        theGaugeFromOneToAllLegs();
        theTopFromOneToAllLegs();
        theSheetHitsItselfInAPoint();
        theFirstReasonThatHolds();
        refusedForEachReason();
        stuckFromNoneToAll();
        eachCostAlone();
        theFirstStepOfAllCostsNothing();
        Check.end();
    }

    private static SheetFolder folded(String text, int... codes) {
        SheetFolder x = Check.folder(text + Check.NO_TOOLS);
        for (int code : codes) {
            x.fold(code >> 1, code & 1);
        }
        return x;
    }

    private static void atFirstNoBendIsMade() {
        for (String text : new String[] {"", "leg 5;", "leg 5;up 6;", Check.NINE_LEGS}) {
            SheetFolder x = Check.folder(text);
            Check.same("24 made", x.made(), 0);
            Check.same("25 steps", x.steps(), 0);
            Check.same("27 costSoFar", x.costSoFar(), 0);
            Check.index("26 no first step", () -> x.step(0, 0));
            Check.index("26 the step first", () -> x.step(0, 4));
            Check.index("26 the step first", () -> x.step(0, -1));
        }
    }

    private static void withoutLegsOrBendsThereIsNoStep() {
        for (String text : new String[] {"", "leg 5;"}) {
            SheetFolder x = Check.folder(text + "gauge 9999 9999;flange 9999;");
            for (int bend : new int[] {-1, 0, 1, 7, 8, Integer.MIN_VALUE, Integer.MAX_VALUE}) {
                Check.index("28 bend " + bend, () -> x.reason(bend, 0));
                Check.index("29 bend " + bend, () -> x.gauge(bend, 0));
                Check.index("30 bend " + bend, () -> x.corner(bend, 0, 0, 0));
                Check.index("31 bend " + bend, () -> x.top(bend, 0));
                Check.index("32 bend " + bend, () -> x.hitting(bend, 0));
                Check.index("36 bend " + bend, () -> x.costOf(bend, 0));
            }
            for (int reason = 1; reason <= 6; reason++) {
                Check.same("33 none is refused for " + reason, x.refused(reason), 0);
            }
            Check.same("34 possible", x.possible(), 0);
            Check.same("35 stuck", x.stuck(), 0);
        }
    }

    private static void theFirstAndTheLastStep() {
        SheetFolder x = Check.folder(Check.NINE_LEGS + "cost 1 10 50;");
        for (int i = 0; i < 8; i++) {
            int bend = i * 3 % 8;
            int side = i >> 1 & 1;
            int gauge = x.gauge(bend, side);
            int cost = x.costOf(bend, side);
            Check.same("47 step " + i, x.fold(bend, side), cost);
            int[] due = {bend, side, gauge, cost};
            for (int what = 0; what < 4; what++) {
                Check.same("26 step " + i + ", " + what, x.step(i, what), due[what]);
                Check.same("26 the first step, " + what, x.step(0, what), new int[] {0, 0, 1, 0}[what]);
            }
            Check.same("25 steps", x.steps(), i + 1);
            int behind = i + 1;
            Check.index("26 one behind the last", () -> x.step(behind, 0));
        }
        for (int what : new int[] {-1, 4, Integer.MIN_VALUE, Integer.MAX_VALUE}) {
            Check.argument("26 the first step, what " + what, () -> x.step(0, what));
            Check.argument("26 the last step, what " + what, () -> x.step(7, what));
            Check.index("26 the step first, what " + what, () -> x.step(8, what));
        }
        for (int step : new int[] {-1, 8, 9, Integer.MIN_VALUE, Integer.MAX_VALUE}) {
            Check.index("26 step " + step, () -> x.step(step, 3));
        }
    }

    private static void allBitsOfMadeAndPossible() {
        SheetFolder x = Check.folder(Check.NINE_LEGS);
        int made = 0;
        int possible = 65535;
        Check.same("34 all sixteen", x.possible(), possible);
        for (int bend : new int[] {7, 0, 4, 1, 6, 3, 2, 5}) {
            x.fold(bend, bend & 1);
            made |= 1 << bend;
            possible &= ~(3 << 2 * bend);
            Check.same("24 made", x.made(), made);
            Check.same("34 possible", x.possible(), possible);
            Check.same("35 none is stuck", x.stuck(), 0);
            Check.same("33 either side of what is made", x.refused(1), 2 * Integer.bitCount(made));
        }
        Check.same("24 all eight", x.made(), 255);
        Check.same("34 none is left", x.possible(), 0);
    }

    private static void theSumOfTheCosts() {
        SheetFolder x = Check.folder(Check.NINE_LEGS + "cost 99 99 99;");
        for (int bend = 0; bend < 8; bend++) {
            Check.same("27 so far", x.costSoFar(), Math.max(0, bend - 1) * 297);
            x.fold(bend, bend & 1);
        }
        Check.same("27 seven changes of all", x.costSoFar(), 7 * 297);
        x.unfold();
        Check.same("27 flat again", x.costSoFar(), 0);
        x.fold(7, 0);
        Check.same("27 the first step again", x.costSoFar(), 0);
        x.fold(5, 0);
        Check.same("27 a move alone", x.costSoFar(), 99);
        SheetFolder free = Check.folder(Check.NINE_LEGS + "cost 0 0 0;");
        for (int bend = 0; bend < 8; bend++) {
            Check.same("47 nothing costs", free.fold(bend, bend & 1), 0);
        }
        Check.same("27 nothing costs", free.costSoFar(), 0);
    }

    private static void corners(String call, SheetFolder x, int bend, int side, int[]... due) {
        for (int leg = 0; leg < due.length; leg++) {
            Check.same("30 " + call + ", x of leg " + leg, x.corner(bend, side, leg, 0), due[leg][0]);
            Check.same("30 " + call + ", y of leg " + leg, x.corner(bend, side, leg, 1), due[leg][1]);
        }
    }

    private static int[] at(int x, int y) {
        return new int[] {x, y};
    }

    private static void straightOnOverABendThatIsNotMade() {
        SheetFolder x = Check.folder("leg 1;up 20;down 300;up 4000;");
        corners("first bend", x, 0, 0, at(-1, 0), at(0, 20), at(0, 320), at(0, 4320));
        corners("first bend", x, 0, 1, at(0, 1), at(-20, 0), at(-320, 0), at(-4320, 0));
        corners("a bend that is down", x, 1, 0, at(-21, 0), at(-20, 0), at(0, 300), at(0, 4300));
        corners("a bend that is down", x, 1, 1, at(0, 21), at(0, 20), at(-300, 0), at(-4300, 0));
        corners("last bend", x, 2, 0, at(-321, 0), at(-320, 0), at(-300, 0), at(0, 4000));
        corners("last bend", x, 2, 1, at(0, 321), at(0, 320), at(0, 300), at(-4000, 0));
        SheetFolder one = Check.folder("leg 9999;down 1;");
        corners("one bend alone", one, 0, 0, at(-9999, 0), at(0, 1));
        corners("one bend alone", one, 0, 1, at(0, 9999), at(-1, 0));
        for (int leg : new int[] {-1, 2, 8, 9, Integer.MIN_VALUE, Integer.MAX_VALUE}) {
            Check.index("30 leg " + leg, () -> one.corner(0, 0, leg, 0));
            Check.index("30 the leg before side and what", () -> one.corner(0, 2, leg, 2));
        }
    }

    private static void aRightAngleInEachDirection() {
        SheetFolder up = folded("leg 1;up 2;up 4;up 8;up 16;up 32;", 8, 6, 4, 2);
        corners("free, four times counter-clockwise", up, 0, 0,
                at(-1, 0), at(0, 2), at(-4, 2), at(-4, -6), at(12, -6), at(12, 26));
        corners("clamped, four times clockwise", up, 0, 1,
                at(0, 1), at(-2, 0), at(-2, 4), at(6, 4), at(6, -12), at(-26, -12));
        SheetFolder down = folded("leg 1;up 2;down 4;down 8;down 16;down 32;", 8, 6, 4, 2);
        corners("free, four times clockwise", down, 0, 0,
                at(-1, 0), at(0, 2), at(4, 2), at(4, -6), at(-12, -6), at(-12, 26));
        corners("clamped, four times counter-clockwise", down, 0, 1,
                at(0, 1), at(-2, 0), at(-2, -4), at(6, -4), at(6, 12), at(-26, 12));
        SheetFolder low = folded("leg 32;up 16;up 8;up 4;up 2;up 1;", 0, 2, 4, 6);
        corners("clamped, side 0", low, 4, 0, at(-26, -12), at(6, -12), at(6, 4), at(-2, 4), at(-2, 0), at(0, 1));
        corners("free, side 1 clamped", low, 4, 1, at(12, 26), at(12, -6), at(-4, -6), at(-4, 2), at(0, 2), at(-1, 0));
    }

    private static void aBendThatIsDownFlipsTheSheet() {
        SheetFolder x = folded("leg 10;down 2;down 3;up 4;", 4, 2);
        corners("flipped, free", x, 0, 0, at(-10, 0), at(0, 2), at(-3, 2), at(-3, 6));
        corners("flipped, clamped", x, 0, 1, at(0, 10), at(-2, 0), at(-2, 3), at(-6, 3));
        SheetFolder y = folded("leg 10;up 2;up 3;down 4;", 4, 2);
        corners("the other way round, free", y, 0, 0, at(-10, 0), at(0, 2), at(-3, 2), at(-3, 6));
        corners("the other way round, clamped", y, 0, 1, at(0, 10), at(-2, 0), at(-2, 3), at(-6, 3));
    }

    private static void aMadeBendAsIfItWereNot() {
        String text = "leg 40;up 30;down 20;up 10;beam 25 15;table 25 15;wing 25 15;";
        for (int bend = 0; bend < 3; bend++) {
            for (int side = 0; side < 2; side++) {
                SheetFolder before = Check.folder(text);
                SheetFolder behind = Check.folder(text);
                if (bend != 1) {
                    before.fold(1, 0);
                    behind.fold(1, 0);
                }
                behind.setTool(BEAM, 0, 0);
                behind.setTool(TABLE, 0, 0);
                behind.setTool(WING, 0, 0);
                behind.fold(bend, 1 - side);
                behind.setTool(BEAM, 25, 15);
                behind.setTool(TABLE, 25, 15);
                behind.setTool(WING, 25, 15);
                String call = " bend " + bend + ", side " + side + ", as if it were not made";
                Check.same("29" + call, behind.gauge(bend, side), before.gauge(bend, side));
                Check.same("31" + call, behind.top(bend, side), before.top(bend, side));
                Check.same("32" + call, behind.hitting(bend, side), before.hitting(bend, side));
                for (int leg = 0; leg < 4; leg++) {
                    Check.same("30" + call, behind.corner(bend, side, leg, 0), before.corner(bend, side, leg, 0));
                    Check.same("30" + call, behind.corner(bend, side, leg, 1), before.corner(bend, side, leg, 1));
                }
                Check.same("28" + call + ", but refused", behind.reason(bend, side), 1);
            }
        }
    }

    /** What is hit, and why the step is refused, if a tool has this depth and height. */
    private static void hits(SheetFolder x, int code, int tool, int[] size, int legs, int reason) {
        String call = " at bend " + (code >> 1) + ", side " + (code & 1) + ", tool " + tool + " of " + size[0] + " x " + size[1];
        x.setTool(tool, size[0], size[1]);
        Check.same("32" + call, x.hitting(code >> 1, code & 1), legs);
        Check.same("28" + call, x.reason(code >> 1, code & 1), reason);
        x.setTool(tool, 0, 0);
    }

    private static void theBeamOverTheFreeSide() {
        // Leg 2 lies at the height 60, from 0 to the back, to 40; leg 3 hangs there from 60 to 40.
        SheetFolder x = folded("leg 100;up 60;up 40;up 20;", 4, 2);
        hits(x, 0, BEAM, at(40, 60), 0, 0);
        hits(x, 0, BEAM, at(40, 61), 4, 5);
        hits(x, 0, BEAM, at(1, 61), 4, 5);
        hits(x, 0, BEAM, at(41, 60), 8, 5);
        hits(x, 0, BEAM, at(41, 41), 8, 5);
        hits(x, 0, BEAM, at(41, 40), 0, 0);
        hits(x, 0, BEAM, at(41, 61), 12, 5);
        hits(x, 0, TABLE, at(9999, 9999), 0, 0);
        hits(x, 0, WING, at(9999, 9999), 0, 0);
    }

    private static void theBeamOverTheClampedSide() {
        // Leg 1 stands at 60 to the back, up to 40; leg 0 lies on top of it, from 60 to 40 to the back.
        SheetFolder x = folded("leg 20;up 40;up 60;up 100;", 0, 2);
        hits(x, 4, BEAM, at(60, 40), 0, 0);
        hits(x, 4, BEAM, at(60, 41), 1, 4);
        hits(x, 4, BEAM, at(41, 41), 1, 4);
        hits(x, 4, BEAM, at(40, 9999), 0, 0);
        hits(x, 4, BEAM, at(61, 1), 2, 4);
        hits(x, 4, BEAM, at(61, 40), 2, 4);
        hits(x, 4, BEAM, at(61, 41), 3, 4);
        hits(x, 4, TABLE, at(9999, 9999), 0, 0);
        hits(x, 4, WING, at(9999, 9999), 0, 0);
    }

    private static void theTableUnderTheClampedSide() {
        // As with the beam, but downwards.
        SheetFolder x = folded("leg 20;down 40;down 60;up 100;", 0, 2);
        hits(x, 4, TABLE, at(60, 40), 0, 0);
        hits(x, 4, TABLE, at(60, 41), 1, 4);
        hits(x, 4, TABLE, at(41, 41), 1, 4);
        hits(x, 4, TABLE, at(40, 9999), 0, 0);
        hits(x, 4, TABLE, at(61, 1), 2, 4);
        hits(x, 4, TABLE, at(61, 40), 2, 4);
        hits(x, 4, TABLE, at(61, 41), 3, 4);
        hits(x, 4, BEAM, at(9999, 9999), 0, 0);
        hits(x, 4, WING, at(9999, 9999), 0, 0);
    }

    private static void theTableBehindTheFreeSide() {
        // Leg 3 hangs at 40 to the back, behind the short leg 0, from 20 to -30; leg 4 lies there, from 40 to 25.
        SheetFolder x = folded("leg 10;up 20;up 40;up 50;up 15;", 6, 4, 2);
        hits(x, 0, TABLE, at(40, 30), 0, 0);
        hits(x, 0, TABLE, at(25, 9999), 0, 0);
        hits(x, 0, TABLE, at(26, 30), 0, 0);
        hits(x, 0, TABLE, at(26, 31), 16, 5);
        hits(x, 0, TABLE, at(41, 1), 8, 5);
        hits(x, 0, TABLE, at(41, 31), 24, 5);
        hits(x, 0, BEAM, at(40, 20), 0, 0);
    }

    private static void theEdgesToTheFront() {
        // The last leg comes from the front, below the table's top, and ends at 0 or one behind it.
        SheetFolder table = folded("leg 10;up 20;down 30;down 50;down 30;", 6, 4, 2);
        hits(table, 0, TABLE, at(9999, 9999), 0, 0);
        table = folded("leg 10;up 20;down 30;down 50;down 31;", 6, 4, 2);
        hits(table, 0, TABLE, at(1, 31), 16, 5);
        hits(table, 0, TABLE, at(1, 30), 0, 0);
        // The same, above the bend, at the beam.
        SheetFolder beam = folded("leg 10;up 20;down 30;up 40;up 30;", 6, 4, 2);
        hits(beam, 0, BEAM, at(9999, 9999), 0, 0);
        beam = folded("leg 10;up 20;down 30;up 40;up 31;", 6, 4, 2);
        hits(beam, 0, BEAM, at(1, 61), 16, 5);
        hits(beam, 0, BEAM, at(1, 60), 0, 0);
        // The last leg comes from the back and ends at 0 or one ahead of it, at the wing.
        SheetFolder wing = folded("leg 10;up 20;up 30;down 40;down 30;", 6, 4, 2);
        hits(wing, 0, WING, at(9999, 9999), 0, 0);
        wing = folded("leg 10;up 20;up 30;down 40;down 31;", 6, 4, 2);
        hits(wing, 0, WING, at(1, 61), 16, 5);
        hits(wing, 0, WING, at(1, 60), 0, 0);
    }

    private static void theWingBesideTheFreeSide() {
        // Leg 2 lies at the height 60, from 0 to the front, to 40; leg 3 hangs there down to 20.
        SheetFolder x = folded("leg 100;up 60;down 40;down 40;", 4, 2);
        hits(x, 0, WING, at(40, 60), 0, 0);
        hits(x, 0, WING, at(40, 61), 4, 5);
        hits(x, 0, WING, at(1, 61), 4, 5);
        hits(x, 0, WING, at(41, 20), 0, 0);
        hits(x, 0, WING, at(41, 21), 8, 5);
        hits(x, 0, WING, at(41, 60), 8, 5);
        hits(x, 0, WING, at(41, 61), 12, 5);
        hits(x, 0, BEAM, at(9999, 9999), 0, 0);
        hits(x, 0, TABLE, at(9999, 9999), 0, 0);
        // Legs 1 to 4 lie round the wing, on its edges.
        SheetFolder round = folded("leg 100;up 60;down 40;down 60;down 39;", 6, 4, 2);
        hits(round, 0, WING, at(40, 60), 0, 0);
        hits(round, 0, WING, at(41, 60), 8, 5);
    }

    private static void theWingIsNotHitByTheClampedSide() {
        // Leg 0 comes to the front, above the short free side, through where the wing is.
        SheetFolder x = folded("leg 90;up 40;up 60;up 39;", 0, 2);
        Check.same("30 leg 0 reaches ahead of the bend", x.corner(2, 0, 0, 0), 30);
        hits(x, 4, WING, at(9999, 9999), 0, 0);
        hits(x, 4, BEAM, at(1, 41), 1, 4);
        // The same leg hits it if it is of the free side: flat but for bend 0.
        SheetFolder y = folded("leg 90;down 40;up 60;", 0);
        hits(y, 3, WING, at(1, 41), 1, 5);
        hits(y, 3, WING, at(1, 40), 0, 0);
    }

    private static void toolsWithoutDepthOrHeight() {
        // Leg 4 runs across x = 0 above the bend.
        SheetFolder beam = folded("leg 10;up 20;down 30;up 40;up 60;", 6, 4, 2);
        hits(beam, 0, BEAM, at(0, 9999), 0, 0);
        hits(beam, 0, BEAM, at(9999, 0), 0, 0);
        hits(beam, 0, BEAM, at(0, 0), 0, 0);
        hits(beam, 0, BEAM, at(1, 9999), 16, 5);
        hits(beam, 0, WING, at(0, 9999), 0, 0);
        hits(beam, 0, WING, at(9999, 0), 0, 0);
        hits(beam, 0, WING, at(1, 9999), 20, 5);
        // Leg 3 runs across y = 0 behind the bend.
        SheetFolder table = folded("leg 10;up 20;up 40;up 50;", 4, 2);
        hits(table, 0, TABLE, at(9999, 0), 0, 0);
        hits(table, 0, TABLE, at(0, 9999), 0, 0);
        hits(table, 0, TABLE, at(9999, 1), 8, 5);
        hits(table, 0, BEAM, at(9999, 0), 0, 0);
        hits(table, 0, BEAM, at(9999, 1), 8, 5);
    }

    private static void toolsAtTheirGreatest() {
        SheetFolder x = folded("leg 9999;up 9999;up 9999;", 0);
        hits(x, 2, BEAM, at(9999, 9999), 0, 0);
        SheetFolder y = folded("leg 9999;up 9998;up 9999;", 0);
        hits(y, 2, BEAM, at(9999, 9999), 1, 4);
        hits(y, 2, BEAM, at(9998, 9999), 0, 0);
        hits(y, 3, BEAM, at(9999, 9998), 0, 0);
        hits(y, 3, BEAM, at(1, 9999), 1, 5);
        SheetFolder far = folded("leg 9999;up 9999;up 9999;up 9999;", 5);
        hits(far, 0, BEAM, at(9999, 9999), 0, 0);
        Check.same("30 above all beams", far.corner(0, 0, 3, 1), 19998);
    }

    private static void allLegsAsBits() {
        String legs = "leg 10;up 10;up 10;up 10;up 10;up 10;up 10;up 10;up 10;";
        SheetFolder x = folded(legs, 15);
        hits(x, 0, BEAM, at(10, 71), 256, 5);
        hits(x, 0, BEAM, at(10, 70), 0, 0);
        SheetFolder y = folded(legs, 0);
        hits(y, 15, BEAM, at(10, 71), 1, 5);
        hits(y, 15, BEAM, at(10, 70), 0, 0);
        // The four legs behind a bend that is made, next to the one to make, are in the beam together.
        SheetFolder many = folded(legs, 8);
        hits(many, 6, BEAM, at(9999, 9999), 480, 5);
        hits(many, 7, BEAM, at(9999, 9999), 480, 4);
        SheetFolder left = folded(legs, 6);
        hits(left, 8, BEAM, at(9999, 9999), 15, 4);
        hits(left, 9, BEAM, at(9999, 9999), 15, 5);
    }

    private static void theFlangeAndTheLegNextToTheBend() {
        SheetFolder x = Check.folder("leg 20;up 10;up 30;" + Check.NO_TOOLS);
        int[][] due = {{0, 0, 0, 0, 0}, {10, 0, 0, 0, 0}, {11, 2, 0, 0, 2}, {20, 2, 0, 0, 2}, {21, 2, 2, 0, 2},
            {30, 2, 2, 0, 2}, {31, 2, 2, 2, 2}, {9999, 2, 2, 2, 2}};
        for (int[] d : due) {
            x.setTool(FLANGE, d[0], 0);
            for (int code = 0; code < 4; code++) {
                Check.same("28 flange " + d[0] + ", step " + code, x.reason(code >> 1, code & 1), d[code + 1]);
            }
        }
        SheetFolder nine = Check.folder(Check.NINE_LEGS + "flange 2;");
        Check.same("28 the first leg is too short", nine.reason(0, 1), 2);
        Check.same("28 and clamped it is not", nine.reason(0, 0), 0);
        nine.setTool(FLANGE, 256, 0);
        Check.same("28 the last leg is just long enough", nine.reason(7, 0), 0);
        nine.setTool(FLANGE, 257, 0);
        Check.same("28 the last leg is one too short", nine.reason(7, 0), 2);
    }

    private static void theGaugeIsLeastToMost() {
        SheetFolder x = Check.folder("leg 20;up 10;up 30;" + Check.NO_TOOLS);
        int[] gauges = {20, 40, 30, 30};
        for (int code = 0; code < 4; code++) {
            int g = gauges[code];
            int[][] ranges = {{g, g}, {g + 1, 9999}, {0, g - 1}, {0, g}, {g, 9999}, {g - 1, g - 1}, {g + 1, g + 1}, {0, 0}};
            int[] due = {0, 3, 3, 0, 0, 3, 3, 3};
            for (int i = 0; i < due.length; i++) {
                x.setTool(GAUGE, ranges[i][0], ranges[i][1]);
                Check.same("28 gauge " + ranges[i][0] + " to " + ranges[i][1] + ", step " + code,
                        x.reason(code >> 1, code & 1), due[i]);
                Check.same("29 told whatever is allowed", x.gauge(code >> 1, code & 1), g);
            }
        }
        SheetFolder greatest = Check.folder("leg 9999;up 1;up 9998;" + Check.NO_TOOLS);
        Check.same("28 gauge 9999", greatest.reason(0, 0), 0);
        Check.same("28 gauge 9999", greatest.reason(0, 1), 0);
        Check.same("28 gauge 10000", greatest.reason(1, 0), 3);
        greatest.setTool(GAUGE, 9999, 9999);
        Check.same("28 gauge 9999", greatest.reason(0, 0), 0);
        Check.same("28 gauge 9998", greatest.reason(1, 1), 3);
    }

    private static void theGaugeFromOneToAllLegs() {
        SheetFolder x = Check.folder("leg 1;up 9999;up 9999;up 9999;up 9999;up 9999;up 9999;up 9999;up 9999;");
        Check.same("29 least of all", x.gauge(0, 0), 1);
        Check.same("29 greatest of all", x.gauge(0, 1), 79992);
        Check.same("29 refused and told", x.reason(0, 1), 3);
        Check.same("29 one leg", x.gauge(7, 1), 9999);
        Check.same("29 the begin is a point, too", folded("leg 90;up 2;up 5;up 9;", 0, 2).gauge(2, 0), 5);
        Check.same("29 back again behind a bend", folded("leg 9;down 2;up 5;up 1;", 0, 2).gauge(2, 0), 14);
        Check.same("29 to the front, and no farther back", folded("leg 9;up 2;up 5;up 1;", 0, 2).gauge(2, 0), 5);
        Check.same("29 the free side does not count", folded("leg 3;up 20;up 90;", 2).gauge(0, 0), 3);
    }

    private static void theTopFromOneToAllLegs() {
        SheetFolder x = Check.folder("leg 1;up 9999;up 9999;up 9999;up 9999;up 9999;up 9999;up 9999;up 9999;");
        Check.same("31 least of all", x.top(0, 1), 1);
        Check.same("31 greatest of all", x.top(0, 0), 79992);
        Check.same("31 one leg", x.top(7, 0), 9999);
        Check.same("31 downwards again, below the bend", folded("leg 5;up 2;up 7;up 9;", 4, 2).top(0, 0), 2);
        Check.same("31 upwards again behind a bend", folded("leg 5;up 2;up 7;down 9;", 4, 2).top(0, 0), 11);
        Check.same("31 the clamped side does not count", folded("leg 50;up 20;up 3;", 0).top(1, 0), 3);
    }

    private static void self(String text, int code, int due, int... made) {
        SheetFolder x = folded(text, made);
        Check.same("28 itself: " + text + " step " + code, x.reason(code >> 1, code & 1), due);
        Check.same("32 itself is no tool: " + text, x.hitting(code >> 1, code & 1), 0);
    }

    private static void theSheetHitsItselfInAPoint() {
        for (int code = 4; code < 6; code++) {
            self("leg 9;up 9;up 9;up 9;", code, 6, 0, 2);
            self("leg 9;up 9;up 9;up 8;", code, 0, 0, 2);
            self("leg 9;up 9;up 10;up 9;", code, 0, 0, 2);
            self("leg 9;up 9;up 8;up 9;", code, 6, 0, 2);
            self("leg 9;down 9;down 9;down 9;", code, 6, 0, 2);
            self("leg 9;down 9;down 9;down 8;", code, 0, 0, 2);
            self("leg 9;up 9;down 9;up 9;", code, 0, 0, 2);
        }
        // Two legs in one line, the one above the other: their ends meet, or are one apart.
        self("leg 2;up 3;up 6;up 3;up 4;", 6, 6, 0, 2, 4);
        self("leg 2;up 3;up 6;up 3;up 3;", 6, 0, 0, 2, 4);
        // Legs that follow each other have a point in common, always.
        self("leg 1;up 1;", 0, 0);
        self("leg 1;up 1;up 1;", 2, 0, 0);
        self("leg 1;up 1;up 1;", 3, 0, 0);
    }

    /** With bend 2 its two hooks meet; the table is for the clamped one of side 0, the wing for the free one. */
    private static SheetFolder hooks() {
        return folded("leg 20;down 9;down 12;up 9;down 8;down 18;", 1, 3, 8, 6);
    }

    private static void theFirstReasonThatHolds() {
        SheetFolder x = hooks();
        Check.same("28 itself", x.reason(2, 0), 6);
        hits(x, 4, WING, at(9, 10), 48, 5);
        hits(x, 4, TABLE, at(13, 10), 3, 4);
        x.setTool(WING, 9, 10);
        Check.same("28 free side before itself", x.reason(2, 0), 5);
        hits(x, 4, TABLE, at(13, 10), 51, 4);
        x.setTool(GAUGE, 13, 9999);
        Check.same("28 gauge before free side", x.reason(2, 0), 3);
        hits(x, 4, TABLE, at(13, 10), 51, 3);
        x.setTool(FLANGE, 10, 0);
        Check.same("28 flange before gauge", x.reason(2, 0), 2);
        x.setTool(GAUGE, 0, 9999);
        Check.same("28 flange before free side", x.reason(2, 0), 2);
        hits(x, 4, TABLE, at(13, 10), 51, 2);
        x.setTool(WING, 0, 0);
        Check.same("28 flange before itself", x.reason(2, 0), 2);
        x.setTool(FLANGE, 0, 0);
        x.setTool(GAUGE, 0, 11);
        Check.same("28 gauge before itself", x.reason(2, 0), 3);
        x.setTool(TABLE, 9999, 9999);
        x.setTool(WING, 9999, 9999);
        for (int code : new int[] {0, 1, 2, 3, 6, 7, 8, 9}) {
            Check.same("28 made before gauge", x.reason(code >> 1, code & 1), 1);
        }
        x.setTool(GAUGE, 0, 9999);
        x.setTool(FLANGE, 9999, 0);
        for (int code : new int[] {0, 1, 2, 3, 6, 7, 8, 9}) {
            Check.same("28 made before flange", x.reason(code >> 1, code & 1), 1);
        }
    }

    private static void refused(String call, SheetFolder x, int... due) {
        for (int reason = 1; reason <= 6; reason++) {
            Check.same("33 " + call + ", reason " + reason, x.refused(reason), due[reason - 1]);
        }
    }

    private static void refusedForEachReason() {
        SheetFolder x = hooks();
        refused("itself", x, 8, 0, 0, 0, 0, 2);
        x.setTool(WING, 9, 10);
        refused("one side hits the wing", x, 8, 0, 0, 0, 1, 1);
        x.setTool(TABLE, 13, 10);
        refused("the table", x, 8, 0, 0, 2, 0, 0);
        x.setTool(GAUGE, 10, 9999);
        refused("one gauge", x, 8, 0, 1, 1, 0, 0);
        x.setTool(GAUGE, 13, 9999);
        refused("both gauges", x, 8, 0, 2, 0, 0, 0);
        x.setTool(FLANGE, 10, 0);
        refused("one flange", x, 8, 1, 1, 0, 0, 0);
        x.setTool(FLANGE, 13, 0);
        refused("both flanges", x, 8, 2, 0, 0, 0, 0);
        for (int reason : new int[] {0, 7, -1, Integer.MIN_VALUE, Integer.MAX_VALUE}) {
            Check.argument("33 reason " + reason, () -> x.refused(reason));
        }
        SheetFolder nine = Check.folder(Check.NINE_LEGS);
        for (int reason = 1; reason <= 6; reason++) {
            Check.same("33 none for reason " + reason, nine.refused(reason), 0);
        }
        nine.setTool(FLANGE, 9999, 0);
        Check.same("33 all sixteen", nine.refused(2), 16);
        nine.setTool(FLANGE, 0, 0);
        nine.setTool(GAUGE, 9999, 9999);
        Check.same("33 all sixteen", nine.refused(3), 16);
    }

    private static void stuckFromNoneToAll() {
        SheetFolder x = Check.folder(Check.NINE_LEGS);
        Check.same("35 none", x.stuck(), 0);
        x.setTool(FLANGE, 9999, 0);
        Check.same("35 all", x.stuck(), 8);
        x.setTool(FLANGE, 3, 0);
        Check.same("35 neither side of bend 0", x.stuck(), 1);
        x.setTool(FLANGE, 2, 0);
        Check.same("35 one side of bend 0", x.stuck(), 0);
        x.fold(3, 0);
        x.fold(7, 1);
        x.setTool(GAUGE, 9999, 9999);
        Check.same("35 made ones are not stuck", x.stuck(), 6);
        x.setTool(GAUGE, 0, 9999);
        Check.same("35 none again", x.stuck(), 0);
        for (int bend = 0; bend < 7; bend++) {
            if (bend != 3) {
                x.fold(bend, 0);
            }
        }
        Check.same("35 all are made", x.stuck(), 0);
        x.setTool(FLANGE, 9999, 0);
        Check.same("35 all are made", x.stuck(), 0);
    }

    private static void eachCostAlone() {
        String text = "leg 9;up 5;up 9;down 9;" + Check.NO_TOOLS;
        int[] gauges = {9, 23, 5, 18, 14, 9};
        for (int code = 2; code < 6; code++) {
            SheetFolder x = Check.folder(text);
            x.fold(0, 0);
            Check.same("29 gauge of " + code, x.gauge(code >> 1, code & 1), gauges[code]);
            for (int[] cost : new int[][] {{1, 0, 0}, {0, 1, 0}, {0, 0, 1}, {99, 0, 0}, {0, 99, 0}, {0, 0, 99}, {0, 0, 0}}) {
                x.setCost(cost[0], cost[1], cost[2]);
                int due = (code >= 4 ? cost[0] : 0) + ((code & 1) == 1 ? cost[1] : 0) + (gauges[code] != 9 ? cost[2] : 0);
                Check.same("36 cost of " + code, x.costOf(code >> 1, code & 1), due);
            }
        }
        SheetFolder y = Check.folder(text + "cost 1 10 70;");
        y.fold(2, 1);
        Check.same("36 down, then up", y.costOf(1, 1), 1);
        Check.same("36 down, then up, and another gauge", y.costOf(0, 1), 71);
        Check.same("36 the other side and another gauge", y.costOf(1, 0), 81);
        Check.same("36 the other side, the same gauge", y.costOf(0, 0), 11);
        Check.same("36 of the bend that was made, as if it were not", y.costOf(2, 1), 0);
        Check.same("36 of the bend that was made, the other side", y.costOf(2, 0), 80);
        y.setTool(FLANGE, 9999, 0);
        Check.same("36 also if it is refused", y.costOf(0, 0), 11);
    }

    private static void theFirstStepOfAllCostsNothing() {
        SheetFolder x = Check.folder(Check.NINE_LEGS + "cost 99 99 99;");
        for (int code = 0; code < 16; code++) {
            Check.same("36 first of all", x.costOf(code >> 1, code & 1), 0);
        }
        x.fold(7, 1);
        Check.same("36 the second one costs", x.costOf(0, 0), 297);
        x.unfold();
        Check.same("36 first of all again", x.costOf(0, 0), 0);
        x.undo();
        Check.same("36 the second one again", x.costOf(0, 0), 297);
    }
}
