import java.util.Arrays;

/** Promises 37 to 46: orders from the present state on, and trials. */
public final class OrdersTest {
    public static void main(String[] args) {
        ordinary();
        behindAStep();
        noOrder();
        allMade();
        noLegs();
        ties();
        everyOrder();
        beams();
        turned();
        askedBefore();
        wrongInputs();
        Check.end();
    }

    private static final String CHANNEL = "leg 100;up 50;up 100;beam 200 30;cost 3 2 3;";

    private static void ordinary() {
        SheetFolder x = Check.folder(CHANNEL);
        // A flange that stands up hits the beam if it is clamped, so behind a step only one side is possible.
        Check.same("37 orders", x.orders(), 4);
        Check.same("38 leastCost", x.leastCost(), 2);
        Check.same("39 plannedSteps", x.plannedSteps(), 2);
        Check.same("40 planned 0", x.planned(0), 0);
        Check.same("40 planned 1", x.planned(1), 3);
        Check.index("40 planned 2", () -> x.planned(2));
        Check.index("40 planned -1", () -> x.planned(-1));
        Check.same("41 greatestCost", x.greatestCost(), 3);
        for (int code = 0; code < 4; code++) {
            Check.same("42 with " + code, x.ordersWith(code >> 1, code & 1), 1);
        }
        Check.same("43 lastSteps", x.lastSteps(), 9);
        Check.same("44 mostBends", x.mostBends(), 2);
        Check.same("24 nothing changes", x.made(), 0);
    }

    private static void behindAStep() {
        SheetFolder x = Check.folder(CHANNEL);
        x.fold(1, 0);
        Check.same("37 orders", x.orders(), 1);
        Check.same("38 leastCost", x.leastCost(), 3);
        Check.same("39 plannedSteps", x.plannedSteps(), 1);
        Check.same("40 planned", x.planned(0), 0);
        Check.same("41 greatestCost", x.greatestCost(), 3);
        Check.same("42 refused", x.ordersWith(0, 1), 0);
        Check.same("42 made", x.ordersWith(1, 0), 0);
        Check.same("42 possible", x.ordersWith(0, 0), 1);
        Check.same("43 lastSteps", x.lastSteps(), 1);
        Check.same("44 mostBends", x.mostBends(), 1);
        x.setCost(3, 2, 9);
        Check.same("38 other costs", x.leastCost(), 9);
        x.undo();
        Check.same("38 the costs before", x.leastCost(), 3);
    }

    private static void noOrder() {
        SheetFolder x = Check.folder("leg 10;up 20;up 10;up 25;beam 0 0;table 0 0;wing 0 0;");
        Check.same("37 orders", x.orders(), 0);
        Check.same("38 leastCost", x.leastCost(), SheetFolder.NONE);
        Check.same("39 plannedSteps", x.plannedSteps(), SheetFolder.NONE);
        Check.index("40 planned", () -> x.planned(0));
        Check.same("41 greatestCost", x.greatestCost(), SheetFolder.NONE);
        Check.same("42 with", x.ordersWith(0, 0), 0);
        Check.same("43 lastSteps", x.lastSteps(), 0);
        Check.same("44 mostBends", x.mostBends(), 2);
        Check.same("45 greatestBeam", x.greatestBeam(), SheetFolder.NONE);
    }

    private static void allMade() {
        SheetFolder x = Check.folder(CHANNEL);
        x.foldNext();
        x.foldNext();
        Check.same("37 orders", x.orders(), 1);
        Check.same("38 leastCost", x.leastCost(), 0);
        Check.same("39 plannedSteps", x.plannedSteps(), 0);
        Check.index("40 planned", () -> x.planned(0));
        Check.same("41 greatestCost", x.greatestCost(), 0);
        Check.same("42 with", x.ordersWith(0, 0), 0);
        Check.same("43 lastSteps", x.lastSteps(), 0);
        Check.same("44 mostBends", x.mostBends(), 0);
        Check.same("45 greatestBeam", x.greatestBeam(), 2000);
    }

    private static void noLegs() {
        SheetFolder x = new SheetFolder();
        Check.same("37 orders", x.orders(), 1);
        Check.same("38 leastCost", x.leastCost(), 0);
        Check.same("39 plannedSteps", x.plannedSteps(), 0);
        Check.same("41 greatestCost", x.greatestCost(), 0);
        Check.same("43 lastSteps", x.lastSteps(), 0);
        Check.same("44 mostBends", x.mostBends(), 0);
        Check.same("45 greatestBeam", x.greatestBeam(), 2000);
        Check.index("42 no bend", () -> x.ordersWith(0, 0));
        Check.index("46 no bend", () -> x.costIfTurned(0));
    }

    private static void ties() {
        String text = "leg 10;up 10;down 10;up 10;down 10;beam 0 0;table 0 0;wing 0 0;";
        SheetFolder x = Check.folder(text + "cost 0 0 0;");
        Check.same("38 nothing costs", x.leastCost(), 0);
        for (int place = 0; place < 4; place++) {
            Check.same("40 the first order of all", x.planned(place), 2 * place);
        }
        x.setCost(5, 0, 0);
        Check.same("38 one flip", x.leastCost(), 5);
        int[] due = {0, 4, 2, 6};
        for (int place = 0; place < 4; place++) {
            Check.same("40 ups first", x.planned(place), due[place]);
        }
        Check.same("41 a flip each time", x.greatestCost(), 15);
        x.setCost(0, 0, 7);
        Check.same("38 the gauge stays twice", x.leastCost(), leastOfAll(text + "cost 0 0 7;"));
    }

    /** By trying all orders behind the steps that were made. */
    private static int leastOfAll(String text, int... made) {
        SheetFolder x = Check.folder(text);
        for (int code : made) {
            x.fold(code >> 1, code & 1);
        }
        if (made.length == x.bends()) {
            return x.costSoFar();
        }
        int least = Integer.MAX_VALUE;
        int possible = x.possible();
        for (int code = 0; possible >> code != 0; code++) {
            if ((possible >> code & 1) != 0) {
                int[] longer = Arrays.copyOf(made, made.length + 1);
                longer[made.length] = code;
                least = Math.min(least, leastOfAll(text, longer));
            }
        }
        return least;
    }

    private static void everyOrder() {
        // Each leg is longer than all before it together, so the sheet never hits itself.
        SheetFolder x = Check.folder("leg 1;up 2;down 4;up 8;up 16;up 32;down 64;up 128;down 256;"
                + "beam 0 0;table 0 0;wing 0 0;");
        Check.same("37 8! orders of steps, either side", x.orders(), 40320L * 256);
        Check.same("42 an eighth, a side", x.ordersWith(7, 1), 40320L * 16);
        Check.same("43 every step", x.lastSteps(), 65535);
        Check.same("44 every bend", x.mostBends(), 8);
        Check.same("39 eight steps", x.plannedSteps(), 8);
        Check.index("40 eight steps", () -> x.planned(8));
        for (int i = 0; i < 8; i++) {
            int due = x.planned(0);
            Check.same("48 the planned step", x.foldNext(), due);
        }
        Check.same("24 all made", x.made(), 255);
    }

    private static void beams() {
        SheetFolder x = Check.folder("leg 500;up 1000;up 500;up 2000;beam 100 1;table 0 0;wing 0 0;");
        int due = SheetFolder.NONE;
        String before = Check.picture(x);
        for (int height = 0; height <= 2000; height += 100) {
            x.setTool(0, 100, height);
            due = x.orders() > 0 ? height : due;
            x.undo();
        }
        Check.same("45 by trying all", x.greatestBeam(), due);
        Check.sameText("45 nothing changes", Check.picture(x), before);
        SheetFolder flat = Check.folder("leg 500;up 1000;beam 9999 1;");
        Check.same("45 never hit", flat.greatestBeam(), 2000);
        SheetFolder never = Check.folder("leg 500;up 1000;flange 1001;");
        Check.same("45 no order with any", never.greatestBeam(), SheetFolder.NONE);
        SheetFolder channel = Check.folder("leg 5000;up 700;up 5000;beam 5000 9999;table 0 0;wing 0 0;gauge 5000 9999;");
        channel.fold(0, 0);
        Check.same("45 a flange swings back above the beam", channel.greatestBeam(), 700);
        channel.undo();
        Check.same("45 from the flat sheet", channel.greatestBeam(), 700);
        channel.setLeg(1, 699);
        Check.same("45 a bit lower", channel.greatestBeam(), 600);
    }

    private static void turned() {
        SheetFolder x = Check.folder("leg 100;up 50;up 100;beam 200 30;cost 3 2 3;");
        Check.same("46 no order then", x.costIfTurned(1), SheetFolder.NONE);
        SheetFolder y = Check.folder("leg 40;up 20;down 60;up 30;beam 20 20;table 0 0;wing 0 0;cost 9 4 1;");
        String before = Check.picture(y);
        for (int bend = 0; bend < 3; bend++) {
            y.setDirection(bend, !y.isUp(bend));
            int due = y.leastCost();
            y.undo();
            Check.same("46 as if it was turned", y.costIfTurned(bend), due);
        }
        Check.sameText("46 nothing changes", Check.picture(y), before);
        y.fold(0, 0);
        Check.state("46 a step was made", () -> y.costIfTurned(0));
        Check.index("46 the bend first", () -> y.costIfTurned(3));
        y.unfold();
        Check.same("46 unfolded", y.costIfTurned(0) == SheetFolder.NONE, false);
    }

    /** What was reckoned for an earlier question must not answer for another state. */
    private static void askedBefore() {
        SheetFolder x = Check.folder(CHANNEL);
        int[] best = {x.leastCost(), (int) x.orders()};
        int[][] changes = {{0, 0, 30}, {0, 200, 60}, {1, 0, 600}, {1, 300, 9}, {2, 0, 400}, {2, 200, 9}, {3, 101, 9999},
            {3, 0, 100}, {4, 51, 0}};
        for (int[] c : changes) {
            x.setTool(c[0], c[1], c[2]);
            SheetFolder y = Check.folder(CHANNEL);
            y.setTool(c[0], c[1], c[2]);
            Check.same("37 after tool " + c[0], x.orders(), y.orders());
            x.undo();
            Check.same("37 after undo", x.orders(), best[1]);
        }
        x.setTool(0, 0, 30);
        Check.same("37 a beam without depth", x.orders() > best[1], true);
        x.undo();
        x.setLeg(0, 150);
        Check.same("38 the gauge changes", x.leastCost(), 3);
        x.fold(0, 0);
        Check.same("38 and both change", x.leastCost(), 5);
        x.undo();
        x.undo();
        Check.same("38 after undo", x.leastCost(), best[0]);
        SheetFolder z = Check.folder("leg 9;up 7;up 5;up 6;beam 0 0;table 0 0;wing 0 0;cost 3 2 3;");
        z.fold(0, 1);
        z.fold(2, 1);
        Check.same("44 one more", z.mostBends(), 1);
        z.unfold();
        z.fold(2, 1);
        Check.same("44 two more behind the same step", z.mostBends(), 2);
    }

    private static void wrongInputs() {
        SheetFolder x = Check.folder(CHANNEL);
        Check.index("42 bend first", () -> x.ordersWith(2, 2));
        Check.index("42 bend -1", () -> x.ordersWith(-1, 0));
        Check.argument("42 side 2", () -> x.ordersWith(0, 2));
        Check.argument("42 side -1", () -> x.ordersWith(0, -1));
        Check.index("40 MAX", () -> x.planned(Integer.MAX_VALUE));
        Check.index("40 MIN", () -> x.planned(Integer.MIN_VALUE));
        Check.index("46 bend -1", () -> x.costIfTurned(-1));
        Check.index("46 bend 2", () -> x.costIfTurned(2));
    }
}
