import java.util.ArrayList;
import java.util.List;
import java.util.function.Consumer;
import java.util.function.Supplier;

/**
 * Every call with a parameter that is wrong, in many states: which exception it throws, that an index is checked
 * before the other parameters and these before the state, and that the object goes on as if it was not called.
 */
public final class RefusedCallsTest {
    private static final Class<IndexOutOfBoundsException> INDEX = IndexOutOfBoundsException.class;
    private static final Class<IllegalArgumentException> ARGUMENT = IllegalArgumentException.class;
    private static final Class<IllegalStateException> STATE = IllegalStateException.class;

    private final String name;
    private final Supplier<SheetFolder> make;
    private final int bends;
    private final int legs;
    private final int steps;
    private final boolean isFlat;
    private int calls = 0;

    private RefusedCallsTest(String name, Supplier<SheetFolder> make) {
        this.name = name;
        this.make = make;
        SheetFolder x = make.get();
        bends = x.bends();
        legs = x.legs();
        steps = x.steps();
        isFlat = steps == 0;
    }

    public static void main(String[] args) {
        List<RefusedCallsTest> states = new ArrayList<>();
        states.add(new RefusedCallsTest("a new object", SheetFolder::new));
        states.add(new RefusedCallsTest("one leg", () -> Check.folder("leg 30;back 3 3;back 30 33;")));
        states.add(new RefusedCallsTest("one bend", () -> Check.folder("leg 30;down 40;cost 1 2 3;")));
        states.add(new RefusedCallsTest("flat, with edits", RefusedCallsTest::flat));
        states.add(new RefusedCallsTest("a step was made", RefusedCallsTest::folded));
        states.add(new RefusedCallsTest("all steps were made", RefusedCallsTest::finished));
        states.add(new RefusedCallsTest("no order", RefusedCallsTest::stuck));
        states.add(new RefusedCallsTest("ten edits", RefusedCallsTest::tenEdits));
        states.add(new RefusedCallsTest("an illegal text, a full buffer", RefusedCallsTest::full));
        states.add(new RefusedCallsTest("eight bends", () -> Check.folder(
                "leg 20;up 20;down 20;up 20;down 20;up 20;down 20;up 20;down 20;beam 9 9;table 9 9;wing 9 9;")));
        for (RefusedCallsTest state : states) {
            state.legsAndBends();
            state.whatIsAsked();
            state.stepsAsked();
            state.corners();
            state.folding();
            state.profileEdits();
            state.toolEdits();
            state.sheetsAndCosts();
            state.textAndOutput();
            Check.same(state.name + ": calls were refused", state.calls > 80, true);
        }
        Check.end();
    }

    // ---- the states

    private static SheetFolder flat() {
        SheetFolder x = Check.folder("leg 30;up 20;down 25;up 40;beam 20 15;table 20 10;wing 15 10;cost 4 5 6;"
                + "back 5 7;back 15 27;");
        x.setLeg(2, 26);
        x.setSheet(4, 5, 6);
        x.write();
        return x;
    }

    private static SheetFolder folded() {
        SheetFolder x = flat();
        x.fold(3 - 1, 0);
        return x;
    }

    private static SheetFolder finished() {
        SheetFolder x = flat();
        x.setTool(0, 0, 0);
        x.setTool(1, 0, 0);
        x.setTool(2, 0, 0);
        x.fold(0, 1);
        x.fold(1, 0);
        x.fold(2, 1);
        x.write();
        return x;
    }

    private static SheetFolder stuck() {
        SheetFolder x = flat();
        x.fold(0, 0);
        x.setTool(3, 9999, 9999);
        return x;
    }

    private static SheetFolder tenEdits() {
        SheetFolder x = flat();
        for (int i = 0; i < 12; i++) {
            x.setLeg(i % 4, 50 + i);
        }
        x.undo();
        x.setDirection(0, true);
        return x;
    }

    private static SheetFolder full() {
        SheetFolder x = folded();
        Check.load(x, "leg 5;up 0;");
        for (int i = 0; i < 30; i++) {
            x.feed(0x6C656720, 0x353B7570, 0x20363B20, 0x20202020, 0x20202020);
        }
        return x;
    }

    // ---- the rule

    private void refused(String call, Class<? extends RuntimeException> kind, Consumer<SheetFolder> body) {
        calls++;
        Check.refused(name + ": " + call, kind, make, body);
    }

    /** An index is checked first, then the other parameters, then the state. */
    private void call(String call, boolean isThere, boolean isInRange, boolean isPossible, Consumer<SheetFolder> body) {
        if (!isThere) {
            refused(call, INDEX, body);
        } else if (!isInRange) {
            refused(call, ARGUMENT, body);
        } else if (!isPossible) {
            refused(call, STATE, body);
        }
    }

    private static boolean isUpTo(int number, int greatest) {
        return number >= 0 && number <= greatest;
    }

    private static int[] around(int count) {
        return new int[] {-1, 0, count - 1, count, Integer.MIN_VALUE, Integer.MAX_VALUE};
    }

    // ---- the calls

    private void legsAndBends() {
        for (int leg : around(legs)) {
            boolean isThere = isUpTo(leg, legs - 1);
            call("8 leg(" + leg + ")", isThere, true, true, x -> x.leg(leg));
            for (int what : around(2)) {
                call("21 finishedCorner(" + leg + ", " + what + ")", isThere, isUpTo(what, 1), true,
                        x -> x.finishedCorner(leg, what));
            }
        }
        for (int bend : around(bends)) {
            boolean isThere = isUpTo(bend, bends - 1);
            call("9 isUp(" + bend + ")", isThere, true, true, x -> x.isUp(bend));
            call("12 linePlace(" + bend + ")", isThere, true, true, x -> x.linePlace(bend));
            call("46 costIfTurned(" + bend + ")", isThere, true, isFlat, x -> x.costIfTurned(bend));
        }
    }

    private void whatIsAsked() {
        for (double ratio : new double[] {-Double.MIN_VALUE, 9999.001, Double.NaN, Double.POSITIVE_INFINITY}) {
            refused("15 springBackFor(" + ratio + ")", ARGUMENT, x -> x.springBackFor(ratio));
        }
        for (int tool : around(5)) {
            for (int what : around(2)) {
                boolean isInRange = isUpTo(tool, 4) && isUpTo(what, tool == 4 ? 0 : 1);
                call("17 tool(" + tool + ", " + what + ")", true, isInRange, true, x -> x.tool(tool, what));
            }
        }
        for (int step : around(steps)) {
            for (int what : around(4)) {
                call("26 step(" + step + ", " + what + ")", isUpTo(step, steps - 1), isUpTo(what, 3), true,
                        x -> x.step(step, what));
            }
        }
        for (int reason : new int[] {0, 7, -1, Integer.MIN_VALUE, Integer.MAX_VALUE}) {
            refused("33 refused(" + reason + ")", ARGUMENT, x -> x.refused(reason));
        }
        int planned = Math.max(0, make.get().plannedSteps());
        for (int place : around(planned)) {
            call("40 planned(" + place + ")", isUpTo(place, planned - 1), true, true, x -> x.planned(place));
        }
    }

    private void stepsAsked() {
        for (int bend : around(bends)) {
            for (int side : around(2)) {
                String asked = "(" + bend + ", " + side + ")";
                boolean isThere = isUpTo(bend, bends - 1);
                boolean isInRange = isUpTo(side, 1);
                call("28 reason" + asked, isThere, isInRange, true, x -> x.reason(bend, side));
                call("29 gauge" + asked, isThere, isInRange, true, x -> x.gauge(bend, side));
                call("31 top" + asked, isThere, isInRange, true, x -> x.top(bend, side));
                call("32 hitting" + asked, isThere, isInRange, true, x -> x.hitting(bend, side));
                call("36 costOf" + asked, isThere, isInRange, true, x -> x.costOf(bend, side));
                call("42 ordersWith" + asked, isThere, isInRange, true, x -> x.ordersWith(bend, side));
            }
        }
    }

    private void corners() {
        for (int bend : new int[] {-1, 0, bends}) {
            for (int leg : new int[] {-1, 0, legs, Integer.MAX_VALUE}) {
                for (int side : new int[] {-1, 0, 2}) {
                    for (int what : new int[] {-1, 1, 2}) {
                        call("30 corner(" + bend + ", " + side + ", " + leg + ", " + what + ")",
                                isUpTo(bend, bends - 1) && isUpTo(leg, legs - 1), isUpTo(side, 1) && isUpTo(what, 1), true,
                                x -> x.corner(bend, side, leg, what));
                    }
                }
            }
        }
    }

    private void folding() {
        for (int bend : around(bends)) {
            for (int side : around(2)) {
                boolean isThere = isUpTo(bend, bends - 1);
                boolean isInRange = isUpTo(side, 1);
                boolean isPossible = isThere && isInRange && make.get().reason(bend, side) == 0;
                call("47 fold(" + bend + ", " + side + ")", isThere, isInRange, isPossible, x -> x.fold(bend, side));
            }
        }
        call("48 foldNext()", true, true, make.get().plannedSteps() > 0, SheetFolder::foldNext);
    }

    private void profileEdits() {
        for (int leg : around(legs)) {
            for (int length : new int[] {0, 1, 9999, 10000, -1, Integer.MIN_VALUE, Integer.MAX_VALUE}) {
                call("50 setLeg(" + leg + ", " + length + ")", isUpTo(leg, legs - 1), length >= 1 && length <= 9999,
                        isFlat, x -> x.setLeg(leg, length));
            }
        }
        for (int bend : around(bends)) {
            for (int up = 0; up < 2; up++) {
                boolean isUp = up == 1;
                call("51 setDirection(" + bend + ", " + isUp + ")", isUpTo(bend, bends - 1), true, isFlat,
                        x -> x.setDirection(bend, isUp));
            }
        }
    }

    private void toolEdits() {
        int[] numbers = {0, 1, 9999, -1, 10000, Integer.MIN_VALUE, Integer.MAX_VALUE};
        for (int tool : around(5)) {
            for (int first : numbers) {
                for (int second : numbers) {
                    boolean isInRange = isUpTo(tool, 4) && isUpTo(first, 9999) && isUpTo(second, tool == 4 ? 0 : 9999)
                            && (tool != 3 || second >= first);
                    call("52 setTool(" + tool + ", " + first + ", " + second + ")", true, isInRange, true,
                            x -> x.setTool(tool, first, second));
                }
            }
        }
    }

    private void sheetsAndCosts() {
        int[][] sheets = {{0, 5, 5}, {61, 5, 5}, {-1, 5, 5}, {5, -1, 5}, {5, 201, 5}, {5, 5, -1}, {5, 5, 101}, {0, 0, 0},
            {Integer.MIN_VALUE, 5, 5}, {5, Integer.MAX_VALUE, 5}, {5, 5, Integer.MIN_VALUE}, {61, 201, 101}};
        for (int[] s : sheets) {
            refused("53 setSheet(" + s[0] + ", " + s[1] + ", " + s[2] + ")", ARGUMENT, x -> x.setSheet(s[0], s[1], s[2]));
        }
        int[][] costs = {{-1, 5, 5}, {100, 5, 5}, {5, -1, 5}, {5, 100, 5}, {5, 5, -1}, {5, 5, 100}, {100, 100, 100},
            {Integer.MIN_VALUE, 5, 5}, {5, Integer.MAX_VALUE, 5}, {5, 5, Integer.MAX_VALUE}};
        for (int[] c : costs) {
            refused("54 setCost(" + c[0] + ", " + c[1] + ", " + c[2] + ")", ARGUMENT, x -> x.setCost(c[0], c[1], c[2]));
        }
    }

    private void textAndOutput() {
        for (int length : new int[] {-1, 601, Integer.MIN_VALUE, Integer.MAX_VALUE}) {
            refused("3 load(" + length + ")", ARGUMENT, x -> x.load(length));
        }
        for (int k : new int[] {-1, 100, Integer.MIN_VALUE, Integer.MAX_VALUE}) {
            refused("57 written(" + k + ")", INDEX, x -> x.written(k));
        }
    }
}
