import java.util.Random;

/**
 * Long runs of calls with ordinary, extreme and wrong inputs: nothing but what the document names is thrown, and what
 * only asks or throws changes nothing, as a twin shows that gets the changes alone. What is told behind many edits is
 * what a new object tells. No object gets more than 512 calls.
 */
public final class LongRunTest {
    private static final Random RANDOM = new Random(7);
    private static final int[] EXTREMES = {Integer.MIN_VALUE, -1000000, -1, 9, 16, 31, 32, 33, 600, 10000, Integer.MAX_VALUE};
    private static final int ASKING = 45;
    private static final int KINDS = 60;

    // What the next call gets.
    private static final int[] GIVEN = new int[5];
    private static String text = "";

    public static void main(String[] args) {
        for (int run = 0; run < 2500; run++) {
            String start = drawText();
            SheetFolder x = Check.folder(start);
            SheetFolder twin = Check.folder(start);
            boolean isForTwin = run % 5 < 3;
            int calls = isForTwin ? 60 : 120;
            for (int call = 0; call < calls; call++) {
                step(x, twin, "run " + run + " call " + call);
            }
            if (isForTwin) {
                Check.sameText("run " + run + ": like its twin", Check.story(x), Check.story(twin));
            } else {
                compareWithNew(x, "run " + run + ": ");
            }
        }
        Check.end();
    }

    private static void step(SheetFolder x, SheetFolder twin, String name) {
        int kind = RANDOM.nextInt(KINDS);
        draw(kind);
        String call = name + " kind " + kind + ": ";
        try {
            long answer = kind < ASKING ? ask(x, kind) : change(x, kind);
            if (kind >= ASKING) {
                Check.same(call + "the same answer", answer, change(twin, kind));
            }
        } catch (IndexOutOfBoundsException | IllegalArgumentException | IllegalStateException e) {
            Check.sameText(call + "thrown by the class itself", e.getStackTrace()[0].getClassName(), "SheetFolder");
        }
    }

    private static String drawText() {
        StringBuilder drawn = new StringBuilder();
        int bends = RANDOM.nextInt(9);
        for (int i = 0; i <= bends; i++) {
            drawn.append(i == 0 ? "leg " : RANDOM.nextBoolean() ? "up " : "down ").append(1 + RANDOM.nextInt(90));
            drawn.append(';');
        }
        drawn.append("beam 50 ").append(RANDOM.nextInt(90)).append(";table 30 ").append(RANDOM.nextInt(90));
        drawn.append(";wing 20 ").append(RANDOM.nextInt(50)).append(";back 5 7;back 20 91;");
        return RANDOM.nextInt(9) == 0 ? "" : drawn.toString();
    }

    private static void draw(int kind) {
        int[] limits = {8, 1, 8, 1, 9};
        if (kind >= ASKING) {
            int[][] ofChanges = {{8, 1}, {8, 1}, {0}, {0}, {0}, {8, 200}, {8, 1}, {4, 60, 400}, {4, 60, 400}, {60, 200, 100},
                {99, 99, 99}, {0}, {0}, {20}, {9, 9, 9, 9, 9}};
            limits = ofChanges[kind - ASKING];
        }
        for (int i = 0; i < GIVEN.length; i++) {
            GIVEN[i] = any(i < limits.length ? limits[i] : 0);
        }
        // A flange has no second number.
        GIVEN[2] = kind == 53 && RANDOM.nextBoolean() ? 0 : GIVEN[2];
        text = RANDOM.nextInt(4) == 0 ? drawText() : "";
    }

    private static int any(int limit) {
        return RANDOM.nextInt(12) == 0 ? EXTREMES[RANDOM.nextInt(EXTREMES.length)] : RANDOM.nextInt(limit + 1);
    }

    private static long ask(SheetFolder x, int kind) {
        int a = GIVEN[0];
        int b = GIVEN[1];
        switch (kind) {
            case 0: return x.errorKind();
            case 1: return x.errorPosition();
            case 2: return x.leg(a);
            case 3: return x.isUp(a) ? 1 : 0;
            case 4: return (long) x.linePlace(a);
            case 5: return (long) x.springBackFor(50.0 * a);
            case 6: return x.swingAngle();
            case 7: return x.tool(a, b);
            case 8: return x.finishedWidth();
            case 9: return x.finishedHeight();
            case 10: return x.isFinishedCrossed() ? 1 : 0;
            case 11: return x.finishedCorner(a, b);
            case 12: return x.isSymmetric() ? 1 : 0;
            case 13: return x.longestLeg();
            case 14: return x.step(a, b);
            case 15: return x.refused(a);
            case 16: return x.possible();
            case 17: return x.stuck();
            case 18: return x.orders();
            case 19: return x.plannedSteps();
            case 20: return x.planned(a);
            case 21: return x.lastSteps();
            case 22: return x.mostBends();
            case 23: return x.greatestBeam();
            case 24: return x.costIfTurned(a);
            case 25: return x.leastCost() + x.greatestCost();
            case 26: return x.written(a);
            case 27: return (long) x.flatLength();
            case 28: return (long) x.springBackFor(a == 0 ? Double.NaN : -0.0);
            case 29: return x.costSoFar();
            default: return askOfStep(x, kind % 7);
        }
    }

    private static long askOfStep(SheetFolder x, int kind) {
        int bend = GIVEN[0];
        int side = GIVEN[1];
        switch (kind) {
            case 0: return x.reason(bend, side);
            case 1: return x.gauge(bend, side);
            case 2: return x.corner(bend, side, GIVEN[2], GIVEN[3]);
            case 3: return x.top(bend, side);
            case 4: return x.hitting(bend, side);
            case 5: return x.costOf(bend, side);
            default: return x.ordersWith(bend, side);
        }
    }

    private static long change(SheetFolder x, int kind) {
        int a = GIVEN[0];
        int b = GIVEN[1];
        int c = GIVEN[2];
        switch (kind) {
            case 45: case 46: return x.fold(a, b);
            case 47: case 48: return x.foldNext();
            case 49: return x.unfold();
            case 50: return x.setLeg(a, b);
            case 51: return x.setDirection(a, b > 0) ? 1 : 0;
            case 52: case 53: return x.setTool(a, b, c);
            case 54: return x.setSheet(a, b, c);
            case 55: return x.setCost(a, b, c);
            case 56: return x.undo();
            case 57: return x.write();
            case 58: return x.load(a);
            default:
                if (text.isEmpty()) {
                    return x.feed(a, b, c, GIVEN[3], GIVEN[4]);
                }
                x.load(0);
                return Check.load(x, text);
        }
    }

    /** The steps are made without tools, which come behind them, as edits. */
    private static void compareWithNew(SheetFolder x, String call) {
        StringBuilder legs = new StringBuilder("beam 0 0;table 0 0;wing 0 0;");
        for (int leg = 0; leg < x.legs(); leg++) {
            legs.append(leg == 0 ? "leg " : x.isUp(leg - 1) ? "up " : "down ").append(x.leg(leg)).append(';');
        }
        SheetFolder y = Check.folder(legs.toString());
        for (int step = 0; step < x.steps(); step++) {
            y.fold(x.step(step, 0), x.step(step, 1));
            Check.same(call + "gauge of step " + step, x.step(step, 2), y.step(step, 2));
        }
        for (int tool = 0; tool < 5; tool++) {
            y.setTool(tool, x.tool(tool, 0), tool == 4 ? 0 : x.tool(tool, 1));
        }
        // No answer tells the costs of turn and move, so both get the same ones.
        x.setCost(1, 2, 4);
        y.setCost(1, 2, 4);
        Check.same(call + "orders", x.orders(), y.orders());
        Check.same(call + "leastCost", x.leastCost(), y.leastCost());
        Check.same(call + "greatestCost", x.greatestCost(), y.greatestCost());
        Check.same(call + "plannedSteps", x.plannedSteps(), y.plannedSteps());
        for (int place = 0; place < x.plannedSteps(); place++) {
            Check.same(call + "planned " + place, x.planned(place), y.planned(place));
        }
        Check.same(call + "lastSteps", x.lastSteps(), y.lastSteps());
        Check.same(call + "mostBends", x.mostBends(), y.mostBends());
        Check.same(call + "possible", x.possible(), y.possible());
        Check.same(call + "greatestBeam", x.greatestBeam(), y.greatestBeam());
    }
}
