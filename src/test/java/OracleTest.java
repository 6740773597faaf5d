import java.util.ArrayList;
import java.util.List;
import java.util.TreeSet;

/**
 * Compares the class with a slow model on many small parts. The model knows a sheet as a set of points, half a unit
 * apart, and an order as a list that was tried out.
 */
public final class OracleTest {
    private static long seed = 20240607L;

    private int[] legs;
    private boolean[] up;
    private int[][] tools;
    private int[] costs;

    private final List<int[]> orders = new ArrayList<>();
    private int most;

    public static void main(String[] args) {
        for (int run = 0; run < 1500; run++) {
            new OracleTest().compare(run);
        }
        Check.end();
    }

    private static int upTo(int limit) {
        seed = seed * 6364136223846793005L + 1442695040888963407L;
        return (int) ((seed >>> 33) % limit);
    }

    private void compare(int run) {
        draw(run);
        compareFinished(Check.folder(text()), run);
        List<int[]> made = new ArrayList<>();
        for (int step = 0; step <= up.length; step++) {
            String call = "run " + run + " \"" + text() + "\" after " + step + " steps: ";
            SheetFolder x = folded(made);
            compareSteps(x, made, call);
            compareOrders(x, made, call);
            int possible = x.possible();
            if (possible == 0) {
                return;
            }
            int code = upTo(2 * up.length);
            while ((possible >> code & 1) == 0) {
                code = (code + 1) % (2 * up.length);
            }
            int cost = cost(made, code);
            made.add(new int[] {code, gauge(bits(made), code), cost});
            Check.same(call + "47 cost", x.fold(code >> 1, code & 1), cost);
            Check.same(call + "26 gauge", x.step(step, 2), made.get(step)[1]);
        }
    }

    /** An object of its own for each state, since none is asked more than 512 times. */
    private SheetFolder folded(List<int[]> steps) {
        SheetFolder x = Check.folder(text());
        for (int[] step : steps) {
            x.fold(step[0] >> 1, step[0] & 1);
        }
        return x;
    }

    private void draw(int run) {
        int bends = 1 + upTo(run % 10 == 0 ? 5 : 4);
        legs = new int[bends + 1];
        up = new boolean[bends];
        for (int i = 0; i <= bends; i++) {
            legs[i] = 1 + upTo(8);
        }
        for (int i = 0; i < bends; i++) {
            up[i] = upTo(2) == 0;
        }
        int size = 1 + upTo(9);
        tools = new int[][] {{upTo(size), upTo(size)}, {upTo(size), upTo(size)}, {upTo(size), upTo(size)},
            {upTo(3), 9 + upTo(25)}, {upTo(3), 0}};
        costs = new int[] {upTo(4), upTo(4), upTo(4)};
    }

    private String text() {
        StringBuilder text = new StringBuilder("leg " + legs[0] + ";");
        for (int i = 0; i < up.length; i++) {
            text.append(up[i] ? "up " : "down ").append(legs[i + 1]).append(';');
        }
        String[] names = {"beam", "table", "wing", "gauge"};
        for (int i = 0; i < 4; i++) {
            text.append(names[i]).append(' ').append(tools[i][0]).append(' ').append(tools[i][1]).append(';');
        }
        text.append("flange ").append(tools[4][0]).append(';');
        text.append("cost ").append(costs[0]).append(' ').append(costs[1]).append(' ').append(costs[2]).append(';');
        return text.toString();
    }

    // ---- geometry: a leg is the list of its points, in half units

    private List<List<int[]>> lay(int first, int dx, int dy, int stride, int made, boolean isFlipped, boolean isLeft) {
        List<List<int[]>> all = new ArrayList<>();
        int x = 0;
        int y = 0;
        for (int leg = first; leg >= 0 && leg < legs.length; leg += stride) {
            List<int[]> points = new ArrayList<>();
            points.add(new int[] {x, y});
            for (int i = 0; i < 2 * legs[leg]; i++) {
                x += dx;
                y += dy;
                points.add(new int[] {x, y});
            }
            all.add(points);
            int bend = stride > 0 ? leg : leg - 1;
            if (bend >= 0 && bend < up.length && (made >> bend & 1) != 0) {
                boolean turnsLeft = (up[bend] != isFlipped) == isLeft;
                int oldX = dx;
                dx = turnsLeft ? -dy : dy;
                dy = turnsLeft ? oldX : -oldX;
            }
        }
        return all;
    }

    private List<List<int[]>> byNumber(int made, int code) {
        int bend = code >> 1;
        boolean isLowClamped = (code & 1) == 0;
        boolean isFlipped = !up[bend];
        // The clamped side turns right over a bend that is up, the free side left.
        List<List<int[]>> low = lay(bend, isLowClamped ? -1 : 0, isLowClamped ? 0 : 1, -1, made, isFlipped, !isLowClamped);
        List<List<int[]>> high = lay(bend + 1, isLowClamped ? 0 : -1, isLowClamped ? 1 : 0, 1, made, isFlipped, isLowClamped);
        List<List<int[]>> all = new ArrayList<>();
        for (int i = low.size() - 1; i >= 0; i--) {
            all.add(low.get(i));
        }
        all.addAll(high);
        return all;
    }

    private boolean isClamped(int code, int leg) {
        return ((code & 1) == 0) == (leg <= code >> 1);
    }

    private int gauge(int made, int code) {
        int gauge = 0;
        List<List<int[]>> all = byNumber(made, code);
        for (int leg = 0; leg < legs.length; leg++) {
            for (int[] p : all.get(leg)) {
                gauge = isClamped(code, leg) ? Math.max(gauge, -p[0] / 2) : gauge;
            }
        }
        return gauge;
    }

    private int top(int made, int code) {
        int top = 0;
        List<List<int[]>> all = byNumber(made, code);
        for (int leg = 0; leg < legs.length; leg++) {
            for (int[] p : all.get(leg)) {
                top = isClamped(code, leg) ? top : Math.max(top, p[1] / 2);
            }
        }
        return top;
    }

    private int hitting(int made, int code) {
        int bits = 0;
        List<List<int[]>> all = byNumber(made, code);
        for (int leg = 0; leg < legs.length; leg++) {
            for (int[] p : all.get(leg)) {
                boolean beam = p[0] > -2 * tools[0][0] && p[0] < 0 && p[1] > 0 && p[1] < 2 * tools[0][1];
                boolean table = p[0] > -2 * tools[1][0] && p[0] < 0 && p[1] < 0 && p[1] > -2 * tools[1][1];
                boolean wing = p[0] > 0 && p[0] < 2 * tools[2][0] && p[1] > 0 && p[1] < 2 * tools[2][1];
                if (beam || table || wing && !isClamped(code, leg)) {
                    bits |= 1 << leg;
                }
            }
        }
        return bits;
    }

    private static boolean crosses(List<List<int[]>> all) {
        List<TreeSet<Long>> sets = new ArrayList<>();
        for (List<int[]> leg : all) {
            TreeSet<Long> set = new TreeSet<>();
            for (int[] p : leg) {
                set.add(p[0] * 100000L + p[1]);
            }
            sets.add(set);
        }
        for (int a = 0; a < sets.size(); a++) {
            for (int b = a + 2; b < sets.size(); b++) {
                for (Long point : sets.get(a)) {
                    if (sets.get(b).contains(point)) {
                        return true;
                    }
                }
            }
        }
        return false;
    }

    private int reason(int made, int code) {
        int bend = code >> 1;
        if ((made >> bend & 1) != 0) {
            return 1;
        }
        if (legs[(code & 1) == 0 ? bend + 1 : bend] < tools[4][0]) {
            return 2;
        }
        int gauge = gauge(made, code);
        if (gauge < tools[3][0] || gauge > tools[3][1]) {
            return 3;
        }
        int hitting = hitting(made, code);
        for (int reason = 4; reason <= 5; reason++) {
            for (int leg = 0; leg < legs.length; leg++) {
                if ((hitting >> leg & 1) != 0 && isClamped(code, leg) == (reason == 4)) {
                    return reason;
                }
            }
        }
        return crosses(byNumber(made, code)) ? 6 : 0;
    }

    // ---- orders: all of them, tried out

    private static int bits(List<int[]> steps) {
        int bits = 0;
        for (int[] step : steps) {
            bits |= 1 << (step[0] >> 1);
        }
        return bits;
    }

    private int cost(List<int[]> steps, int code) {
        if (steps.isEmpty()) {
            return 0;
        }
        int[] last = steps.get(steps.size() - 1);
        return (up[last[0] >> 1] != up[code >> 1] ? costs[0] : 0)
                + (last[0] % 2 != code % 2 ? costs[1] : 0)
                + (last[1] != gauge(bits(steps), code) ? costs[2] : 0);
    }

    private void tryOut(List<int[]> steps, int from) {
        most = Math.max(most, steps.size() - from);
        if (steps.size() == up.length) {
            int[] order = new int[steps.size() - from + 1];
            for (int i = from; i < steps.size(); i++) {
                order[i - from] = steps.get(i)[0];
                order[order.length - 1] += steps.get(i)[2];
            }
            orders.add(order);
        }
        int made = bits(steps);
        for (int code = 0; code < 2 * up.length; code++) {
            if (reason(made, code) == 0) {
                steps.add(new int[] {code, gauge(made, code), cost(steps, code)});
                tryOut(steps, from);
                steps.remove(steps.size() - 1);
            }
        }
    }

    private int leastOfAll(List<int[]> made) {
        orders.clear();
        most = 0;
        tryOut(new ArrayList<>(made), made.size());
        int least = SheetFolder.NONE;
        for (int[] order : orders) {
            least = least == SheetFolder.NONE ? order[order.length - 1] : Math.min(least, order[order.length - 1]);
        }
        return least;
    }

    // ---- the comparisons

    private void compareFinished(SheetFolder x, int run) {
        String call = "run " + run + ": ";
        List<List<int[]>> all = lay(0, 1, 0, 1, (1 << up.length) - 1, false, true);
        int[] ends = {0, 0, 0, 0};
        for (int leg = 0; leg < legs.length; leg++) {
            int[] end = all.get(leg).get(2 * legs[leg]);
            Check.same(call + "21 x of " + leg, x.finishedCorner(leg, 0), end[0] / 2);
            Check.same(call + "21 y of " + leg, x.finishedCorner(leg, 1), end[1] / 2);
            for (int what = 0; what < 2; what++) {
                ends[what] = Math.min(ends[what], end[what] / 2);
                ends[what + 2] = Math.max(ends[what + 2], end[what] / 2);
            }
        }
        Check.same(call + "18 width", x.finishedWidth(), ends[2] - ends[0]);
        Check.same(call + "19 height", x.finishedHeight(), ends[3] - ends[1]);
        Check.same(call + "20 crossed", x.isFinishedCrossed(), crosses(all));
    }

    private void compareSteps(SheetFolder x, List<int[]> steps, String call) {
        int made = bits(steps);
        int[] refused = new int[7];
        int possible = 0;
        for (int code = 0; code < 2 * up.length; code++) {
            int bend = code >> 1;
            int side = code & 1;
            int reason = reason(made, code);
            refused[reason]++;
            possible |= reason == 0 ? 1 << code : 0;
            Check.same(call + "28 reason of " + code, x.reason(bend, side), reason);
            Check.same(call + "29 gauge of " + code, x.gauge(bend, side), gauge(made, code));
            Check.same(call + "31 top of " + code, x.top(bend, side), top(made, code));
            Check.same(call + "32 hitting of " + code, x.hitting(bend, side), hitting(made, code));
            Check.same(call + "36 costOf " + code, x.costOf(bend, side), cost(steps, code));
            List<List<int[]>> all = byNumber(made, code);
            for (int leg = 0; leg < legs.length; leg++) {
                int[] end = all.get(leg).get(2 * legs[leg]);
                Check.same(call + "30 x of " + leg + " at " + code, x.corner(bend, side, leg, 0), end[0] / 2);
                Check.same(call + "30 y of " + leg + " at " + code, x.corner(bend, side, leg, 1), end[1] / 2);
            }
        }
        for (int reason = 1; reason <= 6; reason++) {
            Check.same(call + "33 refused " + reason, x.refused(reason), refused[reason]);
        }
        Check.same(call + "34 possible", x.possible(), possible);
        int stuck = 0;
        for (int bend = 0; bend < up.length; bend++) {
            stuck += (made >> bend & 1) == 0 && (possible >> 2 * bend & 3) == 0 ? 1 : 0;
        }
        Check.same(call + "35 stuck", x.stuck(), stuck);
        Check.same(call + "24 made", x.made(), made);
    }

    private void compareOrders(SheetFolder x, List<int[]> made, String call) {
        compareTrials(x, made, call);
        int least = leastOfAll(made);
        int greatest = SheetFolder.NONE;
        int lastSteps = 0;
        int[] best = null;
        int[] with = new int[2 * up.length];
        for (int[] order : orders) {
            int cost = order[order.length - 1];
            greatest = Math.max(greatest, cost);
            // They were tried out in the order in which the document compares them.
            best = best == null && cost == least ? order : best;
            if (order.length > 1) {
                lastSteps |= 1 << order[order.length - 2];
                with[order[0]]++;
            }
        }
        Check.same(call + "37 orders", x.orders(), orders.size());
        Check.same(call + "38 leastCost", x.leastCost(), least);
        Check.same(call + "39 plannedSteps", x.plannedSteps(), best == null ? SheetFolder.NONE : best.length - 1);
        for (int place = 0; best != null && place < best.length - 1; place++) {
            Check.same(call + "40 planned " + place, x.planned(place), best[place]);
        }
        Check.same(call + "41 greatestCost", x.greatestCost(), greatest);
        for (int code = 0; code < with.length; code++) {
            Check.same(call + "42 with " + code, x.ordersWith(code >> 1, code & 1), with[code]);
        }
        Check.same(call + "43 lastSteps", x.lastSteps(), lastSteps);
        Check.same(call + "44 mostBends", x.mostBends(), most);
    }

    private void compareTrials(SheetFolder x, List<int[]> made, String call) {
        // The parts are so small that every beam from 100 on is as good as one without an end.
        int height = tools[0][1];
        int due = SheetFolder.NONE;
        for (int high = 0; high <= 100; high += 100) {
            tools[0][1] = high;
            due = leastOfAll(made) != SheetFolder.NONE ? 20 * high : due;
        }
        tools[0][1] = height;
        Check.same(call + "45 greatestBeam", x.greatestBeam(), due);
        for (int bend = 0; bend < up.length && made.isEmpty(); bend++) {
            up[bend] = !up[bend];
            int least = leastOfAll(made);
            up[bend] = !up[bend];
            Check.same(call + "46 costIfTurned " + bend, x.costIfTurned(bend), least);
        }
    }
}
