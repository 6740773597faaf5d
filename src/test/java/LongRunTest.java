import java.util.Random;

/**
 * Long runs of calls with ordinary, extreme and wrong inputs: nothing but what the document names is thrown, a call
 * that throws changes nothing, and what is told behind many edits is what a new object tells.
 */
public final class LongRunTest {
    private static final Random RANDOM = new Random(7);
    private static final int[] EXTREMES = {Integer.MIN_VALUE, -1000000, -1, 9, 16, 31, 32, 33, 600, 10000, Integer.MAX_VALUE};

    public static void main(String[] args) {
        for (int run = 0; run < 300; run++) {
            longRun(run);
        }
        Check.end();
    }

    private static void longRun(int run) {
        SheetFolder x = new SheetFolder();
        Check.load(x, text());
        for (int call = 0; call < 300; call++) {
            String before = Check.picture(x);
            int kind = RANDOM.nextInt(60);
            try {
                call(x, kind);
                if (kind < 45) {
                    Check.sameText("run " + run + " call " + call + " kind " + kind + " asks only",
                            Check.picture(x), before);
                }
            } catch (IndexOutOfBoundsException | IllegalArgumentException | IllegalStateException e) {
                Check.sameText("run " + run + " call " + call + " kind " + kind + " thrown by the class itself",
                        e.getStackTrace()[0].getClassName(), "SheetFolder");
                Check.sameText("run " + run + " call " + call + " kind " + kind + " throws, changes nothing",
                        Check.picture(x), before);
            }
            if (call % 5 == 0) {
                compareWithNew(x, "run " + run + " call " + call + ": ");
            }
        }
    }

    private static String text() {
        StringBuilder text = new StringBuilder();
        int bends = RANDOM.nextInt(9);
        for (int i = 0; i <= bends; i++) {
            text.append(i == 0 ? "leg " : RANDOM.nextBoolean() ? "up " : "down ").append(1 + RANDOM.nextInt(90));
            text.append(';');
        }
        text.append("beam 50 ").append(RANDOM.nextInt(90)).append(";table 30 ").append(RANDOM.nextInt(90));
        text.append(";wing 20 ").append(RANDOM.nextInt(50)).append(';');
        return RANDOM.nextInt(9) == 0 ? "" : text.toString();
    }

    private static int any(int limit) {
        return RANDOM.nextInt(12) == 0 ? EXTREMES[RANDOM.nextInt(EXTREMES.length)] : RANDOM.nextInt(limit + 1);
    }

    private static void call(SheetFolder x, int kind) {
        if (kind < 30) {
            askPlain(x, kind);
        } else if (kind < 45) {
            askOfStep(x, kind);
        } else {
            change(x, kind);
        }
    }

    private static void askPlain(SheetFolder x, int kind) {
        switch (kind) {
            case 0: x.errorKind(); break;
            case 1: x.errorPosition(); break;
            case 2: x.leg(any(8)); break;
            case 3: x.isUp(any(8)); break;
            case 4: x.linePlace(any(8)); break;
            case 5: x.springBackFor(any(9999)); break;
            case 6: x.swingAngle(); break;
            case 7: x.tool(any(4), any(1)); break;
            case 8: x.finishedWidth(); break;
            case 9: x.finishedHeight(); break;
            case 10: x.isFinishedCrossed(); break;
            case 11: x.finishedCorner(any(8), any(1)); break;
            case 12: x.isSymmetric(); break;
            case 13: x.longestLeg(); break;
            case 14: x.step(any(8), any(3)); break;
            case 15: x.refused(any(6)); break;
            case 16: x.possible(); break;
            case 17: x.stuck(); break;
            case 18: x.orders(); break;
            case 19: x.plannedSteps(); break;
            case 20: x.planned(any(8)); break;
            case 21: x.lastSteps(); break;
            case 22: x.mostBends(); break;
            case 23: x.greatestBeam(); break;
            case 24: x.costIfTurned(any(8)); break;
            case 25: x.write(); break;
            case 26: x.written(any(70)); break;
            case 27: x.flatLength(); break;
            case 28: x.springBackFor(RANDOM.nextBoolean() ? Double.NaN : -0.0); break;
            default: x.costSoFar(); break;
        }
    }

    private static void askOfStep(SheetFolder x, int kind) {
        switch (kind % 7) {
            case 0: x.reason(any(8), any(1)); break;
            case 1: x.gauge(any(8), any(1)); break;
            case 2: x.corner(any(8), any(1), any(8), any(1)); break;
            case 3: x.top(any(8), any(1)); break;
            case 4: x.hitting(any(8), any(1)); break;
            case 5: x.costOf(any(8), any(1)); break;
            default: x.ordersWith(any(8), any(1)); break;
        }
    }

    private static void change(SheetFolder x, int kind) {
        switch (kind) {
            case 45: case 46: x.fold(any(8), any(1)); break;
            case 47: case 48: x.foldNext(); break;
            case 49: x.unfold(); break;
            case 50: x.setLeg(any(8), any(200)); break;
            case 51: x.setDirection(any(8), RANDOM.nextBoolean()); break;
            case 52: x.setTool(any(4), any(60), any(400)); break;
            case 53: x.setTool(4, any(40), 0); break;
            case 54: x.setSheet(any(60), any(200), any(100)); break;
            case 55: x.setCost(any(99), any(99), any(99)); break;
            case 56: case 57: x.undo(); break;
            case 58: x.load(any(20)); break;
            default:
                x.feed(any(9), RANDOM.nextInt(), any(9), any(9), any(9));
                if (RANDOM.nextInt(4) == 0) {
                    x.load(0);
                    Check.load(x, text());
                }
                break;
        }
    }

    /** The steps are made without tools, which come behind them, as edits. */
    private static void compareWithNew(SheetFolder x, String call) {
        StringBuilder text = new StringBuilder("beam 0 0;table 0 0;wing 0 0;");
        for (int leg = 0; leg < x.legs(); leg++) {
            text.append(leg == 0 ? "leg " : x.isUp(leg - 1) ? "up " : "down ").append(x.leg(leg)).append(';');
        }
        SheetFolder y = Check.folder(text.toString());
        for (int step = 0; step < x.steps(); step++) {
            y.fold(x.step(step, 0), x.step(step, 1));
            Check.same(call + "gauge of step " + step, x.step(step, 2), y.step(step, 2));
        }
        for (int tool = 0; tool < 5; tool++) {
            y.setTool(tool, x.tool(tool, 0), tool == 4 ? 0 : x.tool(tool, 1));
        }
        // No answer tells the costs of turn and move, so both get the same ones until the comparison is over.
        int flip = x.setCost(1, 2, 4);
        y.setCost(1, 2, 4);
        Check.same(call + "orders", x.orders(), y.orders());
        Check.same(call + "leastCost", x.leastCost(), y.leastCost());
        Check.same(call + "greatestCost", x.greatestCost(), y.greatestCost());
        Check.same(call + "plannedSteps", x.plannedSteps(), y.plannedSteps());
        for (int place = 0; place < x.plannedSteps(); place++) {
            Check.same(call + "planned " + place, x.planned(place), y.planned(place));
        }
        Check.same(call + "lastSteps", x.lastSteps(), y.lastSteps());
        Check.same(call + "mostBends", x.mostBends(), y.mostBends());
        Check.same(call + "possible", x.possible(), y.possible());
        Check.same(call + "greatestBeam", x.greatestBeam(), y.greatestBeam());
        x.undo();
        Check.same(call + "flip again", x.setCost(flip, 0, 0), flip);
        x.undo();
    }
}
