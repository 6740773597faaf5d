/** Promises 24 to 36: the state, and what a step would be in it. */
public final class StateTest {
    public static void main(String[] args) {
        state();
        reasons();
        reasonsInTheirOrder();
        edgesOfTheTools();
        emptyTools();
        corners();
        cornersFlipped();
        ofABendThatIsMade();
        gauges();
        tops();
        counts();
        costs();
        wrongInputs();
        Check.end();
    }

    private static void state() {
        SheetFolder x = Check.folder("leg 100;up 50;down 100;up 60;cost 3 5 7;beam 0 0;table 0 0;wing 0 0;");
        Check.same("24 made", x.made(), 0);
        Check.same("25 steps", x.steps(), 0);
        Check.same("27 costSoFar", x.costSoFar(), 0);
        Check.index("26 no step", () -> x.step(0, 0));
        x.fold(0, 0);
        x.fold(2, 1);
        Check.same("24 made", x.made(), 5);
        Check.same("25 steps", x.steps(), 2);
        long[][] due = {{0, 0, 100, 0}, {2, 1, 60, 12}};
        for (int step = 0; step < 2; step++) {
            for (int what = 0; what < 4; what++) {
                Check.same("26 step " + step + " " + what, x.step(step, what), due[step][what]);
            }
        }
        Check.same("27 costSoFar", x.costSoFar(), 12);
        Check.index("26 step 2", () -> x.step(2, 0));
        Check.index("26 step -1, first", () -> x.step(-1, 7));
        Check.argument("26 what 4", () -> x.step(0, 4));
        Check.argument("26 what -1", () -> x.step(0, -1));
    }

    private static void reasons() {
        SheetFolder x = Check.folder("leg 100;up 50;up 100;beam 200 30;");
        Check.same("28 possible", x.reason(0, 0), 0);
        x.fold(0, 0);
        Check.same("28 made already", x.reason(0, 1), 1);
        Check.same("28 clamped hits the beam", x.reason(1, 0), 4);
        Check.same("32 leg 0", x.hitting(1, 0), 1);
        Check.same("28 possible", x.reason(1, 1), 0);
        SheetFolder y = Check.folder("leg 100;up 50;down 100;");
        y.fold(0, 0);
        Check.same("28 clamped hits the table", y.reason(1, 0), 4);
        Check.same("28 free hits the wing", y.reason(1, 1), 5);
        Check.same("32 leg 0 at the wing", y.hitting(1, 1), 1);
        SheetFolder z = Check.folder("leg 100;up 50;up 100;beam 300 60;");
        z.fold(1, 0);
        Check.same("28 free hits the beam", z.reason(0, 0), 5);
        Check.same("32 leg 2 at the beam", z.hitting(0, 0), 4);
        z.setTool(0, 300, 50);
        Check.same("28 above the beam", z.reason(0, 0), 0);
        SheetFolder table = Check.folder("leg 100;up 10;up 60;up 10;beam 0 0;wing 0 0;");
        table.fold(2, 0);
        table.fold(1, 0);
        Check.same("32 leg 3 touches the table", table.hitting(0, 0), 0);
        Check.same("28 but it touches leg 0", table.reason(0, 0), 6);
        SheetFolder low = Check.folder("leg 100;up 10;up 20;up 60;beam 0 0;wing 0 0;");
        low.fold(2, 0);
        low.fold(1, 0);
        Check.same("28 free hits the table", low.reason(0, 0), 5);
        Check.same("32 leg 3 in the table", low.hitting(0, 0), 8);
        SheetFolder self = Check.folder("leg 10;up 30;up 10;up 15;beam 0 0;table 0 0;wing 0 0;");
        self.fold(1, 0);
        Check.same("28 open", self.reason(2, 0), 0);
        self.setTool(0, 0, 0);
        self.fold(2, 0);
        Check.same("28 open end", self.reason(0, 0), 0);
        SheetFolder touch = Check.folder("leg 10;up 10;up 10;up 10;beam 0 0;table 0 0;wing 0 0;");
        touch.fold(0, 0);
        touch.fold(1, 1);
        Check.same("28 the sheet hits itself", touch.reason(2, 0), 6);
        Check.same("28 the sheet hits itself", touch.reason(2, 1), 6);
        Check.same("32 itself is not among it", touch.hitting(2, 1), 0);
    }

    private static void reasonsInTheirOrder() {
        SheetFolder x = Check.folder("leg 10;up 10;up 10;up 10;beam 0 0;table 0 0;wing 0 0;");
        x.fold(0, 0);
        x.fold(1, 1);
        x.setTool(0, 100, 100);
        Check.same("28 the beam before itself, clamped", x.reason(2, 0), 4);
        x.setTool(0, 0, 0);
        x.setTool(3, 11, 9999);
        Check.same("28 the gauge", x.reason(2, 0), 3);
        x.setTool(0, 100, 100);
        Check.same("28 the gauge before the beam", x.reason(2, 0), 3);
        x.setTool(4, 11, 0);
        Check.same("28 the flange before the gauge", x.reason(2, 0), 2);
        Check.same("28 made before the flange", x.reason(1, 0), 1);
        x.setTool(4, 10, 0);
        x.setTool(3, 10, 10);
        Check.same("28 flange and gauge just right", x.reason(2, 1), 5);
        x.setTool(3, 0, 9);
        Check.same("28 gauge too great", x.reason(2, 1), 3);
    }

    private static void edgesOfTheTools() {
        SheetFolder x = Check.folder("leg 100;up 50;up 100;beam 50 600;table 0 0;wing 0 0;");
        x.fold(0, 0);
        Check.same("28 behind the beam, touching", x.reason(1, 0), 0);
        x.setTool(0, 51, 600);
        Check.same("28 inside the beam", x.reason(1, 0), 4);
        x.setTool(0, 300, 0);
        Check.same("28 a beam without height", x.reason(1, 0), 0);
        SheetFolder y = Check.folder("leg 30;down 50;up 100;beam 0 0;table 0 0;wing 200 50;");
        y.fold(0, 1);
        Check.same("28 above the wing, touching", y.reason(1, 1), 0);
        y.setTool(2, 200, 51);
        Check.same("28 inside the wing", y.reason(1, 1), 5);
        y.setTool(2, 1, 51);
        Check.same("28 inside a thin wing", y.reason(1, 1), 5);
        y.setTool(2, 0, 51);
        Check.same("28 a wing without depth", y.reason(1, 1), 0);
        SheetFolder z = Check.folder("leg 30;down 50;up 100;beam 0 0;table 50 600;wing 0 0;");
        z.fold(0, 1);
        Check.same("28 behind the table, touching", z.reason(1, 0), 0);
        z.setTool(1, 51, 1);
        Check.same("28 inside the table", z.reason(1, 0), 4);
    }

    private static void emptyTools() {
        // Leg 2 runs across x = 0 above the place of the bend, through where a tool without depth would be.
        SheetFolder x = Check.folder("leg 100;up 50;down 20;up 20;up 90;beam 0 600;table 0 600;wing 0 400;");
        x.fold(1, 0);
        x.fold(2, 0);
        x.fold(3, 0);
        Check.same("30 leg 4 goes to the back", x.corner(0, 0, 4, 0), 20 - 90);
        Check.same("32 no depth, nothing inside", x.hitting(0, 0), 0);
        x.setTool(0, 1, 70);
        Check.same("32 on the edge", x.hitting(0, 0), 0);
        x.setTool(0, 1, 71);
        Check.same("32 inside", x.hitting(0, 0), 16);
        x.setTool(2, 20, 400);
        Check.same("32 inside both", x.hitting(0, 0), 20);
        x.setTool(2, 20, 50);
        Check.same("32 leg 2 on the edge of the wing", x.hitting(0, 0), 16);
        x.setTool(2, 21, 51);
        Check.same("32 legs 2 and 3 inside the wing", x.hitting(0, 0), 28);
    }

    private static void corner(SheetFolder x, int bend, int side, int leg, int dueX, int dueY) {
        String call = "30 corner of leg " + leg + " at bend " + bend + ", side " + side;
        Check.same(call + " x", x.corner(bend, side, leg, 0), dueX);
        Check.same(call + " y", x.corner(bend, side, leg, 1), dueY);
    }

    private static void corners() {
        SheetFolder x = Check.folder("leg 100;up 10;down 20;up 40;up 80;beam 0 0;table 0 0;wing 0 0;");
        corner(x, 2, 0, 0, -130, 0);
        corner(x, 2, 0, 1, -30, 0);
        corner(x, 2, 0, 2, -20, 0);
        corner(x, 2, 0, 3, 0, 40);
        corner(x, 2, 0, 4, 0, 120);
        corner(x, 2, 1, 4, -120, 0);
        corner(x, 2, 1, 3, -40, 0);
        corner(x, 2, 1, 0, 0, 130);
        x.fold(0, 0);
        x.fold(1, 1);
        x.fold(3, 0);
        corner(x, 2, 0, 2, -20, 0);
        corner(x, 2, 0, 1, -20, -10);
        corner(x, 2, 0, 0, -120, -10);
        corner(x, 2, 0, 3, 0, 40);
        corner(x, 2, 0, 4, -80, 40);
        corner(x, 2, 1, 3, -40, 0);
        corner(x, 2, 1, 4, -40, 80);
        corner(x, 2, 1, 2, 0, 20);
        corner(x, 2, 1, 1, 10, 20);
        corner(x, 2, 1, 0, 10, 120);
    }

    private static void cornersFlipped() {
        SheetFolder x = Check.folder("leg 100;up 10;down 20;up 40;beam 0 0;table 0 0;wing 0 0;");
        x.fold(0, 0);
        x.fold(2, 0);
        corner(x, 1, 0, 1, -10, 0);
        corner(x, 1, 0, 0, -10, -100);
        corner(x, 1, 0, 2, 0, 20);
        corner(x, 1, 0, 3, 40, 20);
        corner(x, 1, 1, 3, -20, -40);
        corner(x, 1, 1, 0, 100, 10);
    }

    private static void ofABendThatIsMade() {
        SheetFolder x = Check.folder("leg 100;up 50;up 70;beam 300 50;");
        int[] before = {x.gauge(0, 0), x.gauge(0, 1), x.top(0, 0), x.top(0, 1), x.corner(0, 1, 2, 0)};
        x.fold(0, 0);
        int[] behind = {x.gauge(0, 0), x.gauge(0, 1), x.top(0, 0), x.top(0, 1), x.corner(0, 1, 2, 0)};
        for (int i = 0; i < before.length; i++) {
            Check.same("29 30 31 as if it were not made " + i, behind[i], before[i]);
        }
        x.fold(1, 1);
        Check.same("32 as if it were not made", x.hitting(1, 0), 1);
        Check.same("28 but refused", x.reason(1, 0), 1);
        Check.same("36 costs, too", x.costOf(1, 1), 0);
    }

    private static void gauges() {
        SheetFolder x = Check.folder("leg 100;up 10;down 20;beam 0 0;table 0 0;wing 0 0;");
        Check.same("29 flat, side 0", x.gauge(1, 0), 110);
        Check.same("29 flat, side 1", x.gauge(1, 1), 20);
        x.fold(0, 0);
        Check.same("29 leg 0 goes down", x.gauge(1, 0), 10);
        SheetFolder y = Check.folder("leg 100;down 10;up 30;up 20;beam 0 0;table 0 0;wing 0 0;");
        y.fold(0, 0);
        y.fold(1, 0);
        Check.same("29 goes on to the back", y.gauge(2, 0), 130);
        SheetFolder z = Check.folder("leg 100;up 10;up 30;up 20;beam 0 0;table 0 0;wing 0 0;");
        z.fold(0, 0);
        z.fold(1, 0);
        Check.same("29 comes to the front", z.gauge(2, 0), 30);
        Check.same("29 told although refused", z.reason(2, 0), 6);
    }

    private static void tops() {
        SheetFolder x = Check.folder("leg 100;up 10;up 20;up 40;beam 0 0;table 0 0;wing 0 0;");
        Check.same("31 flat, side 0", x.top(0, 0), 70);
        Check.same("31 flat, side 1", x.top(0, 1), 100);
        x.fold(2, 0);
        Check.same("31 to the back", x.top(0, 0), 30);
        x.fold(1, 0);
        Check.same("31 back and down", x.top(0, 0), 10);
        Check.same("31 the clamped side does not count", x.top(0, 1), 100);
        SheetFolder y = Check.folder("leg 100;up 10;up 20;beam 0 0;table 0 0;wing 0 0;");
        y.fold(1, 0);
        Check.same("31 the clamped side is higher", y.corner(0, 1, 2, 1), 20);
        y.setTool(0, 0, 0);
        Check.same("31 free side of leg 0", y.top(0, 1), 100);
    }

    private static void counts() {
        SheetFolder x = Check.folder("leg 100;up 50;up 100;beam 200 30;");
        Check.same("34 possible", x.possible(), 15);
        Check.same("35 stuck", x.stuck(), 0);
        x.fold(0, 0);
        Check.same("33 refused 1", x.refused(1), 2);
        Check.same("33 refused 4", x.refused(4), 1);
        Check.same("33 refused 6", x.refused(6), 0);
        Check.same("34 possible", x.possible(), 8);
        Check.same("35 stuck", x.stuck(), 0);
        x.setTool(4, 101, 0);
        Check.same("33 refused 2", x.refused(2), 2);
        Check.same("34 possible", x.possible(), 0);
        Check.same("35 stuck", x.stuck(), 1);
        x.setTool(4, 0, 0);
        x.setTool(3, 9999, 9999);
        Check.same("33 refused 3", x.refused(3), 2);
        SheetFolder y = Check.folder("leg 100;up 50;down 100;");
        y.fold(0, 0);
        Check.same("33 refused 5", y.refused(5), 1);
        Check.same("33 refused 4", y.refused(4), 1);
        Check.same("35 stuck", y.stuck(), 1);
        SheetFolder none = new SheetFolder();
        Check.same("34 no legs", none.possible() + none.stuck() + none.refused(1), 0);
        Check.argument("33 reason 0", () -> none.refused(0));
        Check.argument("33 reason 7", () -> none.refused(7));
        Check.argument("33 reason MIN", () -> none.refused(Integer.MIN_VALUE));
    }

    private static void costs() {
        SheetFolder x = Check.folder("leg 50;up 30;down 20;up 70;cost 1 10 90;beam 0 0;table 0 0;wing 0 0;");
        for (int bend = 0; bend < 3; bend++) {
            Check.same("36 the first step of all", x.costOf(bend, 0) + x.costOf(bend, 1), 0);
        }
        x.fold(0, 0);
        Check.same("36 flip and move", x.costOf(1, 0), 91);
        Check.same("36 all", x.costOf(1, 1), 101);
        Check.same("36 move", x.costOf(2, 0), 0);
        Check.same("36 turn and move", x.costOf(2, 1), 100);
        Check.same("36 the same again", x.costOf(0, 0), 0);
        x.setCost(2, 20, 30);
        Check.same("36 other costs", x.costOf(1, 1), 52);
        Check.same("27 costs stay", x.costSoFar(), 0);
    }

    private static void wrongInputs() {
        SheetFolder x = Check.folder("leg 50;up 30;down 20;");
        int[] wrong = {-1, 2, Integer.MIN_VALUE, Integer.MAX_VALUE};
        for (int bend : wrong) {
            Check.index("28 bend first", () -> x.reason(bend, 5));
            Check.index("29 bend first", () -> x.gauge(bend, 5));
            Check.index("30 bend first", () -> x.corner(bend, 5, 0, 5));
            Check.index("31 bend first", () -> x.top(bend, 5));
            Check.index("32 bend first", () -> x.hitting(bend, 5));
            Check.index("36 bend first", () -> x.costOf(bend, 5));
        }
        for (int side : wrong) {
            Check.argument("28 side", () -> x.reason(1, side));
            Check.argument("29 side", () -> x.gauge(1, side));
            Check.argument("30 side", () -> x.corner(1, side, 2, 0));
            Check.argument("30 what", () -> x.corner(1, 0, 2, side));
            Check.argument("31 side", () -> x.top(1, side));
            Check.argument("32 side", () -> x.hitting(1, side));
            Check.argument("36 side", () -> x.costOf(1, side));
        }
        Check.index("30 leg first", () -> x.corner(0, 2, 3, 2));
        Check.index("30 leg -1", () -> x.corner(0, 0, -1, 0));
    }
}
