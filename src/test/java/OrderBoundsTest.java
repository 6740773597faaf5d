/** The sentences of ORDERS, and of the promises 37 to 46, that name a boundary: a method for each. */
public final class OrderBoundsTest {
    public static void main(String[] args) {
        withoutBendsThereIsOneOrder();
        ifAllBendsAreMadeThereIsOneOrder();
        oneBendAlone();
        oneBendIsLeft();
        eightBends();
        noOrderAtAll();
        noOrderFromHereOn();
        theOrderNeedsEachStepInItsState();
        eachCostDecides();
        theFirstStepOfAllIsFree();
        ofSeveralTheFirstOne();
        theGreatestCosts();
        placesOfThePlan();
        ordersThatBeginWithAStep();
        theLastStepsOfAnOrder();
        asManyBendsAsCanBeMade();
        theBeamFromNoneToTheHighest();
        theBeamFromAState();
        turnedOneWayAndTheOther();
        turnedOnAFlatSheetAlone();
        anotherPartHasOrdersOfItsOwn();
        anotherStateHasOrdersOfItsOwn();
        Check.end();
    }

    private static void orders(String call, SheetFolder x, long orders, int least, int greatest, int... plan) {
        Check.same("37 " + call, x.orders(), orders);
        Check.same("38 " + call, x.leastCost(), least);
        Check.same("41 " + call, x.greatestCost(), greatest);
        Check.same("39 " + call, x.plannedSteps(), orders == 0 ? SheetFolder.NONE : plan.length);
        for (int place = 0; place < plan.length; place++) {
            Check.same("40 " + call + ", place " + place, x.planned(place), plan[place]);
        }
        for (int place : new int[] {-1, plan.length, plan.length + 1, 8, 9, Integer.MIN_VALUE, Integer.MAX_VALUE}) {
            Check.index("40 " + call + ", place " + place, () -> x.planned(place));
        }
    }

    private static void withoutBendsThereIsOneOrder() {
        for (String text : new String[] {"", "leg 5;", "leg 9999;gauge 0 0;flange 9999;"}) {
            SheetFolder x = Check.folder(text);
            orders("no bends", x, 1, 0, 0);
            Check.same("43 no bends", x.lastSteps(), 0);
            Check.same("44 no bends", x.mostBends(), 0);
            Check.same("45 no bends", x.greatestBeam(), 2000);
            for (int bend : new int[] {-1, 0, 1, 8}) {
                Check.index("42 no bend " + bend, () -> x.ordersWith(bend, 0));
                Check.index("46 no bend " + bend, () -> x.costIfTurned(bend));
            }
            Check.state("48 no bends", x::foldNext);
        }
    }

    private static void ifAllBendsAreMadeThereIsOneOrder() {
        SheetFolder x = Check.folder(Check.NINE_LEGS);
        for (int bend = 7; bend >= 0; bend--) {
            x.fold(bend, 0);
        }
        x.setTool(4, 9999, 0);
        orders("all are made", x, 1, 0, 0);
        for (int code = 0; code < 16; code++) {
            Check.same("42 all are made", x.ordersWith(code >> 1, code & 1), 0);
        }
        Check.same("43 all are made", x.lastSteps(), 0);
        Check.same("44 all are made", x.mostBends(), 0);
        Check.same("45 all are made", x.greatestBeam(), 2000);
        Check.state("48 all are made", x::foldNext);
    }

    private static void oneBendAlone() {
        SheetFolder x = Check.folder("leg 20;down 30;" + Check.NO_TOOLS + "cost 99 99 99;");
        orders("one bend", x, 2, 0, 0, 0);
        Check.same("42 one bend", x.ordersWith(0, 0), 1);
        Check.same("42 one bend", x.ordersWith(0, 1), 1);
        Check.same("43 one bend", x.lastSteps(), 3);
        Check.same("44 one bend", x.mostBends(), 1);
        x.setTool(4, 21, 0);
        orders("one bend, side 0", x, 1, 0, 0, 0);
        Check.same("42 refused", x.ordersWith(0, 1), 0);
        Check.same("43 one bend, side 0", x.lastSteps(), 1);
        x.setTool(4, 0, 0);
        x.setTool(3, 21, 9999);
        orders("one bend, side 1", x, 1, 0, 0, 1);
        Check.same("43 one bend, side 1", x.lastSteps(), 2);
        x.setTool(4, 31, 0);
        orders("one bend, refused", x, 0, SheetFolder.NONE, SheetFolder.NONE);
        Check.same("43 one bend, refused", x.lastSteps(), 0);
        Check.same("44 one bend, refused", x.mostBends(), 0);
        Check.same("45 one bend, refused", x.greatestBeam(), SheetFolder.NONE);
        Check.same("46 one bend, refused", x.costIfTurned(0), SheetFolder.NONE);
    }

    private static void oneBendIsLeft() {
        SheetFolder x = Check.folder("leg 20;up 30;down 40;" + Check.NO_TOOLS + "cost 1 10 50;");
        x.fold(0, 0);
        // Clamped at side 0 its gauge is 30, at side 1 it is 40; before it was 20.
        orders("one is left", x, 2, 51, 61, 2);
        Check.same("43 one is left", x.lastSteps(), 12);
        Check.same("44 one is left", x.mostBends(), 1);
        Check.same("42 made", x.ordersWith(0, 1), 0);
        x.setTool(3, 40, 40);
        orders("one is left, side 1", x, 1, 61, 61, 3);
        x.setTool(3, 41, 41);
        orders("one is left, and refused", x, 0, SheetFolder.NONE, SheetFolder.NONE);
        Check.same("43 one is left, and refused", x.lastSteps(), 0);
        Check.same("44 one is left, and refused", x.mostBends(), 0);
    }

    private static void eightBends() {
        SheetFolder x = Check.folder(Check.NINE_LEGS + "cost 0 0 0;");
        orders("eight bends", x, 40320L * 256, 0, 0, 0, 2, 4, 6, 8, 10, 12, 14);
        for (int code = 0; code < 16; code++) {
            Check.same("42 begin with " + code, x.ordersWith(code >> 1, code & 1), 5040L * 128);
        }
        Check.same("43 any step can be the last", x.lastSteps(), 65535);
        Check.same("44 eight bends", x.mostBends(), 8);
        long due = 40320L * 256;
        for (int bend = 0; bend < 8; bend++) {
            x.fold(bend, 1);
            due /= 2 * (8 - bend);
            Check.same("37 behind " + (bend + 1) + " steps", x.orders(), due);
            Check.same("44 behind " + (bend + 1) + " steps", x.mostBends(), 7 - bend);
            Check.same("43 behind " + (bend + 1) + " steps", x.lastSteps(), 65535 & -1 << 2 * bend + 2);
        }
    }

    private static void noOrderAtAll() {
        SheetFolder x = Check.folder("leg 20;up 30;down 20;flange 31;");
        orders("no step is possible", x, 0, SheetFolder.NONE, SheetFolder.NONE);
        for (int code = 0; code < 4; code++) {
            Check.same("42 no step is possible", x.ordersWith(code >> 1, code & 1), 0);
        }
        Check.same("43 no step is possible", x.lastSteps(), 0);
        Check.same("44 no step is possible", x.mostBends(), 0);
        Check.same("45 no step is possible", x.greatestBeam(), SheetFolder.NONE);
        Check.state("48 no step is possible", x::foldNext);
        // Both sides are possible, but the sheet would hit itself behind the second bend or the third one.
        SheetFolder square = Check.folder("leg 9;up 9;up 9;up 9;" + Check.NO_TOOLS);
        Check.same("34 all steps are possible", square.possible(), 63);
        orders("a square", square, 0, SheetFolder.NONE, SheetFolder.NONE);
        for (int code = 0; code < 6; code++) {
            Check.same("42 possible, but of no order", square.ordersWith(code >> 1, code & 1), 0);
        }
        Check.same("43 a square", square.lastSteps(), 0);
        Check.same("44 a square", square.mostBends(), 2);
        Check.state("48 a square", square::foldNext);
        square.setLeg(3, 8);
        Check.same("37 one less", square.orders() > 0, true);
    }

    private static void noOrderFromHereOn() {
        SheetFolder x = Check.folder("leg 100;up 50;down 100;" + Check.NO_TOOLS + "gauge 150 150;");
        Check.same("34 the long sides can be clamped", x.possible(), 6);
        Check.same("42 possible, of no order", x.ordersWith(0, 1), 0);
        x.fold(0, 1);
        orders("from here on", x, 0, SheetFolder.NONE, SheetFolder.NONE);
        Check.same("44 from here on", x.mostBends(), 0);
        Check.same("43 from here on", x.lastSteps(), 0);
        Check.same("45 from here on", x.greatestBeam(), SheetFolder.NONE);
        Check.state("48 from here on", x::foldNext);
        x.undo();
        Check.same("44 from the flat sheet", x.mostBends(), 1);
    }

    private static void theOrderNeedsEachStepInItsState() {
        // Either bend can be made first, and with bend 0 first bend 1 can't be made.
        SheetFolder x = Check.folder("leg 100;up 50;up 30;beam 0 0;table 0 0;wing 0 0;gauge 30 150;");
        Check.same("34 all", x.possible(), 15);
        Check.same("37 all", x.orders(), 8);
        x.setTool(3, 51, 150);
        Check.same("34 not side 1 of bend 1", x.possible(), 7);
        Check.same("42 bend 0 first: the gauge of bend 1 is 50 then", x.ordersWith(0, 0) + x.ordersWith(0, 1), 0);
        Check.same("42 bend 1 first", x.ordersWith(1, 0), 1);
        orders("bend 1 first", x, 1, 1, 1, 2, 0);
        Check.same("43 bend 0 last", x.lastSteps(), 1);
        x.setTool(3, 50, 150);
        Check.same("37 a gauge of 50 is allowed", x.orders(), 4);
        Check.same("42 a gauge of 50", x.ordersWith(0, 0), 1);
        Check.same("42 a gauge of 50", x.ordersWith(1, 0), 2);
        Check.same("43 a gauge of 50", x.lastSteps(), 7);
    }

    private static void eachCostDecides() {
        // Gauges, flat: bend 0: 20, 70; bend 1: 50, 40. Behind bend 0: bend 1: 30, 40. Behind bend 1: bend 0: 20, 30.
        SheetFolder x = Check.folder("leg 20;up 30;down 40;" + Check.NO_TOOLS);
        x.setCost(0, 0, 0);
        orders("no costs", x, 8, 0, 0, 0, 2);
        x.setCost(99, 0, 0);
        orders("flip", x, 8, 99, 99, 0, 2);
        x.setCost(0, 99, 0);
        orders("turn", x, 8, 0, 99, 0, 2);
        x.setCost(0, 0, 99);
        orders("move", x, 8, 99, 99, 0, 2);
        x.setLeg(2, 20);
        orders("the same gauge", x, 8, 0, 99, 0, 3);
        x.setCost(0, 98, 99);
        orders("move, rather than turn", x, 8, 98, 197, 0, 3);
        x.setCost(0, 99, 98);
        orders("turn, rather than move", x, 8, 98, 197, 0, 2);
        x.setCost(0, 99, 99);
        orders("either", x, 8, 99, 198, 0, 2);
        x.setDirection(1, true);
        x.setCost(99, 0, 0);
        orders("no flip", x, 8, 0, 0, 0, 2);
    }

    private static void theFirstStepOfAllIsFree() {
        SheetFolder x = Check.folder("leg 20;up 30;up 40;" + Check.NO_TOOLS + "cost 99 99 99;");
        Check.same("38 two steps, a move", x.leastCost(), 99);
        Check.same("41 two steps, a turn and a move", x.greatestCost(), 198);
        x.fold(1, 1);
        Check.same("38 the second step costs", x.leastCost(), 99);
        Check.same("41 the second step costs", x.greatestCost(), 198);
        Check.same("27 the first one did not", x.costSoFar(), 0);
        x.unfold();
        Check.same("38 flat again", x.leastCost(), 99);
        x.setTool(4, 31, 0);
        Check.same("37 none of bend 0 from side 1, none of bend 1 from side 1", x.possible(), 4);
    }

    private static void ofSeveralTheFirstOne() {
        SheetFolder x = Check.folder(Check.NINE_LEGS + "cost 0 7 0;");
        orders("side 0 before side 1", x, 10321920, 0, 49, 0, 2, 4, 6, 8, 10, 12, 14);
        x.setCost(7, 0, 0);
        orders("the ups, then the downs", x, 10321920, 7, 49, 0, 4, 8, 12, 2, 6, 10, 14);
        x.setDirection(0, false);
        orders("the downs, then the ups", x, 10321920, 7, 42, 0, 2, 6, 10, 14, 4, 8, 12);
        x.fold(2, 1);
        orders("behind an up, the ups first", x, 645120, 7, 35, 8, 12, 0, 2, 6, 10, 14);
        x.undo();
        x.fold(7, 1);
        x.setCost(0, 7, 0);
        orders("the side of the step before", x, 645120, 0, 49, 1, 3, 5, 7, 9, 11, 13);
        SheetFolder y = Check.folder("leg 20;up 30;down 20;" + Check.NO_TOOLS + "cost 0 1 9;gauge 20 30;");
        orders("one turn, either bend first", y, 4, 1, 9, 0, 3);
        // The sum decides: the cheapest next step would be that of bend 2 from side 1, which costs 1.
        SheetFolder z = Check.folder("leg 20;down 30;down 30;down 20;" + Check.NO_TOOLS + "cost 1 1 3;");
        z.fold(0, 0);
        Check.same("36 the cheapest next step", z.costOf(2, 1), 1);
        orders("a dear step, then a free one", z, 8, 3, 8, 2, 4);
    }

    private static void theGreatestCosts() {
        SheetFolder x = Check.folder(Check.NINE_LEGS + "cost 99 99 99;");
        Check.same("41 seven changes of all", x.greatestCost(), 7 * 297);
        x.setCost(99, 0, 0);
        Check.same("41 seven flips", x.greatestCost(), 7 * 99);
        Check.same("38 one flip", x.leastCost(), 99);
        x.setCost(0, 99, 0);
        Check.same("41 seven turns", x.greatestCost(), 7 * 99);
        Check.same("38 no turn", x.leastCost(), 0);
        x.setCost(0, 0, 99);
        Check.same("41 seven moves", x.greatestCost(), 7 * 99);
        Check.same("38 seven moves at the least", x.leastCost(), 7 * 99);
    }

    private static void placesOfThePlan() {
        SheetFolder x = Check.folder(Check.NINE_LEGS + "cost 0 0 0;");
        for (int made = 0; made < 8; made++) {
            Check.same("39 steps", x.plannedSteps(), 8 - made);
            Check.same("40 the first place", x.planned(0), 2 * made);
            Check.same("40 the last place", x.planned(7 - made), 14);
            int behind = 8 - made;
            Check.index("40 behind the last place", () -> x.planned(behind));
            Check.index("40 before the first place", () -> x.planned(-1));
            Check.same("48 the first of them", x.foldNext(), 2 * made);
        }
        Check.same("39 no step", x.plannedSteps(), 0);
        Check.index("40 no step", () -> x.planned(0));
        x.unfold();
        x.setTool(4, 9999, 0);
        Check.same("39 no order", x.plannedSteps(), SheetFolder.NONE);
        for (int place : new int[] {-2, -1, 0, 1, 7, 8, Integer.MIN_VALUE, Integer.MAX_VALUE}) {
            Check.index("40 no order, place " + place, () -> x.planned(place));
        }
    }

    private static void ordersThatBeginWithAStep() {
        SheetFolder x = Check.folder("leg 20;up 30;down 40;up 50;" + Check.NO_TOOLS + "flange 30;");
        long sum = 0;
        for (int code = 0; code < 6; code++) {
            boolean isRefused = x.reason(code >> 1, code & 1) != 0;
            Check.same("28 side 1 of bend 0", isRefused, code == 1);
            Check.same("42 0 if it is refused", x.ordersWith(code >> 1, code & 1) == 0, isRefused);
            sum += x.ordersWith(code >> 1, code & 1);
        }
        Check.same("42 all together", x.orders(), sum);
        x.fold(1, 0);
        Check.same("42 of a bend that is made", x.ordersWith(1, 0) + x.ordersWith(1, 1), 0);
        Check.same("42 all together", x.orders(), x.ordersWith(0, 0) + x.ordersWith(2, 0) + x.ordersWith(2, 1));
        for (int bend : new int[] {-1, 3, 4, 8, Integer.MIN_VALUE, Integer.MAX_VALUE}) {
            Check.index("42 bend " + bend, () -> x.ordersWith(bend, 0));
            Check.index("42 the bend first, " + bend, () -> x.ordersWith(bend, 2));
        }
        for (int side : new int[] {-1, 2, Integer.MIN_VALUE, Integer.MAX_VALUE}) {
            Check.argument("42 side " + side, () -> x.ordersWith(0, side));
            Check.argument("42 of a bend that is made, side " + side, () -> x.ordersWith(1, side));
        }
    }

    private static void theLastStepsOfAnOrder() {
        // Clamped with the other flange up, it would stand in the beam: bends 0 and 1 end with their outer sides.
        SheetFolder x = Check.folder("leg 100;up 50;up 100;beam 200 30;");
        Check.same("43 outer sides", x.lastSteps(), 9);
        x.fold(1, 1);
        Check.same("43 one is left", x.lastSteps(), 1);
        x.setTool(4, 9999, 0);
        Check.same("43 and none is possible", x.lastSteps(), 0);
        // With bend 1 made, bend 0 could be made from either side; but bend 1 can't be made first.
        SheetFolder y = Check.folder("leg 60;up 50;up 30;" + Check.NO_TOOLS + "gauge 40 60;");
        Check.same("34 bend 0 from side 0 alone", y.possible(), 1);
        Check.same("43 bend 1 from side 0 alone", y.lastSteps(), 4);
        SheetFolder z = Check.folder("leg 20;up 30;" + Check.NO_TOOLS + "gauge 25 30;");
        Check.same("43 side 1 alone", z.lastSteps(), 2);
    }

    private static void asManyBendsAsCanBeMade() {
        SheetFolder x = Check.folder(Check.NINE_LEGS);
        int[] flanges = {1, 2, 256, 257};
        int[] due = {8, 8, 1, 0};
        for (int i = 0; i < flanges.length; i++) {
            x.setTool(4, flanges[i], 0);
            Check.same("44 flange " + flanges[i], x.mostBends(), due[i]);
        }
        x.setTool(4, 128, 0);
        Check.same("44 the last two", x.mostBends(), 2);
        x.fold(7, 0);
        Check.same("44 one more", x.mostBends(), 1);
        x.fold(6, 0);
        Check.same("44 none more", x.mostBends(), 0);
        x.setTool(4, 0, 0);
        Check.same("44 the other six", x.mostBends(), 6);
        // The most is not what the cheapest or the first steps lead to.
        SheetFolder y = Check.folder("leg 100;up 50;up 30;" + Check.NO_TOOLS + "gauge 51 150;");
        Check.same("44 bend 1 first", y.mostBends(), 2);
        y.fold(0, 0);
        Check.same("44 bend 0 first", y.mostBends(), 0);
    }

    private static void beam(String call, String text, int due) {
        SheetFolder x = Check.folder(text);
        String before = Check.picture(x);
        Check.same("45 " + call, x.greatestBeam(), due);
        Check.sameText("45 " + call + ", nothing changes", Check.picture(x), before);
        Check.same("45 " + call + ", no edit", x.undo(), SheetFolder.NONE);
        Check.same("45 " + call + ", again", x.greatestBeam(), due);
    }

    private static void theBeamFromNoneToTheHighest() {
        // The second flange swings to the back at the height of leg 1; clamped, the first one stands in the beam.
        int[][] due = {{1, 0}, {99, 0}, {100, 100}, {101, 100}, {199, 100}, {200, 200}, {899, 800}, {900, 900}, {1499, 1400},
            {1500, 1500}, {1599, 1500}, {1600, 1600}, {1899, 1800}, {1900, 1900}, {1999, 1900}, {2000, 2000}, {2001, 2000},
            {9999, 2000}};
        for (int[] d : due) {
            String text = "leg 5000;up " + d[0] + ";up 5000;table 0 0;wing 0 0;gauge 5000 9999;";
            beam("leg 1 of " + d[0], "beam 9999 9999;" + text, d[1]);
            beam("leg 1 of " + d[0] + ", whatever the height is", "beam 9999 0;" + text, d[1]);
        }
        String reached = "leg 5000;up 700;up 5000;table 0 0;wing 0 0;gauge 5000 9999;";
        beam("a beam without depth", "beam 0 50;" + reached, 2000);
        beam("a beam with little depth", "beam 1 50;" + reached, 700);
        beam("never hit", "leg 5000;up 5000;", 2000);
        beam("no order even without a beam", "leg 5000;up 700;up 5000;flange 701;gauge 5700 5700;", SheetFolder.NONE);
        beam("the table and the wing are in the way", "leg 50;up 50;down 50;", SheetFolder.NONE);
    }

    private static void theBeamFromAState() {
        String text = "leg 5000;up 700;up 5000;table 0 0;wing 0 0;beam 9999 9999;";
        SheetFolder x = Check.folder(text + "gauge 5000 9999;");
        Check.same("28 the beam as it is", x.reason(0, 0), 0);
        x.fold(0, 0);
        Check.same("37 no order with the beam as it is", x.orders(), 0);
        Check.same("45 the other bend", x.greatestBeam(), 700);
        x.setTool(3, 9999, 9999);
        Check.same("45 the other bend can't be made", x.greatestBeam(), SheetFolder.NONE);
        x.setTool(3, 0, 9999);
        x.setTool(0, 9999, 700);
        x.fold(1, 1);
        Check.same("45 all are made", x.greatestBeam(), 2000);
        x.unfold();
        Check.same("45 flat", x.greatestBeam(), 700);
    }

    private static void turnedOneWayAndTheOther() {
        SheetFolder x = Check.folder("leg 20;up 30;up 40;" + Check.NO_TOOLS + "cost 50 1 2;");
        Check.same("38 as it is", x.leastCost(), 2);
        Check.same("46 bend 0 down", x.costIfTurned(0), 52);
        Check.same("46 bend 1 down", x.costIfTurned(1), 52);
        Check.same("38 nothing changes", x.leastCost(), 2);
        x.setDirection(1, false);
        Check.same("38 as it is now", x.leastCost(), 52);
        Check.same("46 both down", x.costIfTurned(0), 2);
        Check.same("46 both up again", x.costIfTurned(1), 2);
        SheetFolder z = Check.folder("leg 100;up 50;down 100;beam 200 30;");
        Check.same("38 no order", z.leastCost(), SheetFolder.NONE);
        Check.same("46 an order if it was turned", z.costIfTurned(1) >= 0, true);
        SheetFolder u = Check.folder("leg 100;up 50;up 100;beam 200 30;");
        Check.same("46 no order if it was turned", u.costIfTurned(1), SheetFolder.NONE);
        SheetFolder nine = Check.folder(Check.NINE_LEGS + "cost 9 0 0;");
        for (int bend = 0; bend < 8; bend++) {
            Check.same("46 bend " + bend + " of eight", nine.costIfTurned(bend), 9);
        }
    }

    private static void turnedOnAFlatSheetAlone() {
        SheetFolder x = Check.folder("leg 20;up 30;up 40;" + Check.NO_TOOLS);
        for (int bend : new int[] {-1, 2, 3, 8, Integer.MIN_VALUE, Integer.MAX_VALUE}) {
            Check.index("46 bend " + bend, () -> x.costIfTurned(bend));
        }
        x.fold(0, 0);
        Check.state("46 a step was made", () -> x.costIfTurned(1));
        Check.state("46 that of the step", () -> x.costIfTurned(0));
        Check.index("46 the bend first", () -> x.costIfTurned(2));
        Check.index("46 the bend first", () -> x.costIfTurned(-1));
        x.fold(1, 0);
        Check.state("46 all steps were made", () -> x.costIfTurned(1));
        x.unfold();
        Check.same("46 flat again", x.costIfTurned(1) >= 0, true);
        x.undo();
        Check.state("46 and made again", () -> x.costIfTurned(1));
    }

    private static String ordersOf(SheetFolder x) {
        StringBuilder all = new StringBuilder();
        all.append(x.orders()).append(' ').append(x.leastCost()).append(' ').append(x.greatestCost()).append(" plan");
        for (int place = 0; place < x.plannedSteps(); place++) {
            all.append(' ').append(x.planned(place));
        }
        all.append(" last ").append(x.lastSteps()).append(" most ").append(x.mostBends());
        for (int bend = 0; bend < x.bends(); bend++) {
            all.append(' ').append(x.ordersWith(bend, 0)).append(' ').append(x.ordersWith(bend, 1));
        }
        return all.toString();
    }

    /** What was asked of one part does not answer for another one, however like they are. */
    private static void anotherPartHasOrdersOfItsOwn() {
        String[] texts = {
            "leg 50;down 40;",
            "leg 50;down 40;down 30;",
            "leg 50;down 40;down 30;down 20;",
            "leg 50;down 40;",
            "leg 60;down 45;",
            "leg 500;down 350;down 310;",
            "leg 50;up 40;down 30;",
            "leg 50;up 40;up 30;",
            "leg 50;up 40;up 30;wing 0 0;",
            "leg 50;up 40;up 30;beam 9 30;table 10 20;wing 10 30;gauge 30 60;flange 30;",
            "leg 50;up 40;up 30;gauge 40 90;",
            "leg 50;up 40;up 30;gauge 40 91;",
            "leg 50;up 40;up 30;flange 31;",
            "leg 50;up 40;up 30;flange 41;",
            "leg 50;up 40;up 30;cost 5 6 7;",
            "leg 50;up 40;down 30;cost 5 6 7;",
            "leg 50;",
            "",
        };
        for (String first : texts) {
            for (String second : texts) {
                SheetFolder y = Check.folder(first);
                ordersOf(y);
                Check.load(y, second);
                Check.sameText("37 to 44 of " + second + " behind " + first, ordersOf(y), ordersOf(Check.folder(second)));
            }
        }
    }

    /** Nor does what was asked of one state answer for another one. */
    private static void anotherStateHasOrdersOfItsOwn() {
        String text = "leg 9;up 12;down 12;up 9;" + Check.NO_TOOLS + "cost 1 2 4;";
        int[][] states = {{}, {0}, {1}, {5}, {0, 5}, {5, 0}, {2, 5}, {3, 5}, {2, 0}, {0, 2}, {1, 4}, {0, 2, 4}, {4, 2, 0}};
        for (int[] first : states) {
            for (int[] second : states) {
                SheetFolder x = Check.folder(text);
                fold(x, first);
                ordersOf(x);
                x.unfold();
                fold(x, second);
                SheetFolder y = Check.folder(text);
                fold(y, second);
                Check.sameText("37 to 44 behind another state", ordersOf(x), ordersOf(y));
            }
        }
    }

    private static void fold(SheetFolder x, int... codes) {
        for (int code : codes) {
            x.fold(code >> 1, code & 1);
        }
    }
}
