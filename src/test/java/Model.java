import java.util.ArrayList;
import java.util.Arrays;
import java.util.Collections;
import java.util.HashMap;
import java.util.List;
import java.util.Map;
import java.util.regex.Matcher;
import java.util.regex.Pattern;
import java.util.stream.DoubleStream;

/**
 * The document, told once more: a class with the face of SheetFolder, written for plainness alone. A sheet is a list
 * of legs with their two ends; what hits is told by trying the points where something can begin or end; undo keeps
 * whole states; all orders are followed from each state on.
 */
public final class Model {
    private static final int NONE = -1;
    private static final int FULL = -2;
    private static final int BAD_TEXT = -3;

    private record Step(int bend, int side, int gauge, int cost) {
    }

    private record Leg(double x1, double y1, double x2, double y2) {
        boolean has(double x, double y) {
            return Math.min(x1, x2) <= x && x <= Math.max(x1, x2) && Math.min(y1, y2) <= y && y <= Math.max(y1, y2);
        }
    }

    private record Box(double left, double right, double bottom, double top) {
        boolean hasInside(double x, double y) {
            return left < x && x < right && bottom < y && y < top;
        }
    }

    /** What can come behind a state: how many orders, their costs, the best one, the ends of all, the longest way. */
    private record Ways(long orders, int least, int greatest, List<Integer> best, int lastSteps, int most) {
    }

    private static final class State {
        List<Integer> legs = new ArrayList<>();
        List<Boolean> ups = new ArrayList<>();
        List<int[]> backs = new ArrayList<>();
        int[] sheet = {10, 10, 40};
        int[][] tools = {{300, 600}, {300, 600}, {200, 400}, {0, 9999}, {0, 0}};
        int[] costs = {1, 1, 1};
        List<Step> steps = new ArrayList<>();

        State copy() {
            State copy = new State();
            copy.legs = new ArrayList<>(legs);
            copy.ups = new ArrayList<>(ups);
            copy.backs = new ArrayList<>(backs);
            copy.sheet = sheet.clone();
            for (int tool = 0; tool < 5; tool++) {
                copy.tools[tool] = tools[tool].clone();
            }
            copy.costs = costs.clone();
            copy.steps = new ArrayList<>(steps);
            return copy;
        }

        int made() {
            int made = 0;
            for (Step step : steps) {
                made |= 1 << step.bend;
            }
            return made;
        }
    }

    private final List<Integer> buffer = new ArrayList<>();
    private State now = new State();
    private List<State> edits = new ArrayList<>();
    private int errorKind = 0;
    private int errorPosition = NONE;
    private String output = "";

    // ---- text

    public int feed(int a, int b, int c, int d, int e) {
        if (buffer.size() > 580) {
            return FULL;
        }
        for (int word : new int[] {a, b, c, d, e}) {
            for (int shift : new int[] {24, 16, 8, 0}) {
                buffer.add(word >>> shift & 255);
            }
        }
        return buffer.size();
    }

    public int load(int length) {
        argument(length >= 0 && length <= buffer.size());
        StringBuilder text = new StringBuilder();
        for (int b : buffer.subList(0, length)) {
            text.append((char) b);
        }
        buffer.clear();
        State read = new State();
        errorPosition = read(text.toString(), read);
        if (errorPosition != NONE) {
            return BAD_TEXT;
        }
        now = read;
        edits.clear();
        return bends();
    }

    /** The kinds of tokens: a word, 9 for a number, the semicolon, ! for an illegal one, nothing at the end. */
    private record Token(int from, String text) {
        char kind() {
            if (text.isEmpty()) {
                return ' ';
            }
            return text.matches("[a-z]{1,6}") ? 'w' : text.matches("[0-9]{1,4}") ? '9' : text.equals(";") ? ';' : '!';
        }
    }

    private static List<Token> tokens(String text) {
        List<Token> all = new ArrayList<>();
        Matcher m = Pattern.compile("[ \n]+|[a-z]+|[0-9]+|[\\x00-\\xff]").matcher(text);
        while (m.find()) {
            if (!m.group().isBlank() || m.group().matches("[^ \n]")) {
                all.add(new Token(m.start(), m.group()));
            }
        }
        all.add(new Token(text.length(), ""));
        return all;
    }

    /** The place of the error; NONE if there is none. */
    private int read(String text, State into) {
        String word = "";
        List<Integer> numbers = new ArrayList<>();
        for (Token token : tokens(text)) {
            errorKind = kindOf(token, word, numbers, into);
            if (errorKind != 0) {
                return token.from;
            }
            switch (token.kind()) {
                case 'w' -> word = token.text;
                case '9' -> numbers.add(Integer.valueOf(token.text));
                case ';' -> {
                    take(word, numbers, into);
                    word = "";
                    numbers = new ArrayList<>();
                }
                default -> {
                    return NONE;
                }
            }
        }
        return NONE;
    }

    private static int[][] ranges(String word) {
        return switch (word) {
            case "sheet" -> new int[][] {{1, 60}, {0, 200}, {0, 100}};
            case "leg", "up", "down" -> new int[][] {{1, 9999}};
            case "back" -> new int[][] {{0, 999}, {0, 300}};
            case "beam", "table", "wing", "gauge" -> new int[][] {{0, 9999}, {0, 9999}};
            case "flange" -> new int[][] {{0, 9999}};
            case "cost" -> new int[][] {{0, 99}, {0, 99}, {0, 99}};
            default -> null;
        };
    }

    private static int kindOf(Token token, String word, List<Integer> numbers, State sofar) {
        char kind = token.kind();
        if (kind == '!') {
            return 1;
        }
        if (word.isEmpty()) {
            if (kind == ' ') {
                return 0;
            }
            return kind != 'w' || ranges(token.text) == null ? 2 : kindOfWord(token.text, sofar);
        }
        int[][] ranges = ranges(word);
        if (numbers.size() == ranges.length) {
            return kind == ';' ? 0 : 2;
        }
        if (kind != '9') {
            return 2;
        }
        int number = Integer.parseInt(token.text);
        int least = ranges[numbers.size()][0];
        if (word.equals("gauge") && numbers.size() == 1) {
            least = numbers.get(0);
        }
        if (word.equals("back") && numbers.isEmpty() && !sofar.backs.isEmpty()) {
            least = sofar.backs.get(sofar.backs.size() - 1)[0] + 1;
        }
        return number < least || number > ranges[numbers.size()][1] ? 3 : 0;
    }

    private static int kindOfWord(String word, State sofar) {
        boolean isBend = word.equals("up") || word.equals("down");
        if (word.equals("leg") && !sofar.legs.isEmpty() || isBend && sofar.legs.isEmpty()) {
            return 4;
        }
        return isBend && sofar.ups.size() == 8 || word.equals("back") && sofar.backs.size() == 8 ? 5 : 0;
    }

    private static void take(String word, List<Integer> numbers, State into) {
        int[] all = numbers.stream().mapToInt(i -> i).toArray();
        int tool = List.of("beam", "table", "wing", "gauge", "flange").indexOf(word);
        if (tool >= 0) {
            into.tools[tool] = Arrays.copyOf(all, 2);
        } else if (word.equals("sheet")) {
            into.sheet = all;
        } else if (word.equals("cost")) {
            into.costs = all;
        } else if (word.equals("back")) {
            into.backs.add(all);
        } else {
            into.legs.add(all[0]);
            if (!word.equals("leg")) {
                into.ups.add(word.equals("up"));
            }
        }
    }

    public int errorKind() {
        return errorKind;
    }

    public int errorPosition() {
        return errorPosition;
    }

    // ---- profile, lengths

    public int bends() {
        return now.ups.size();
    }

    public int legs() {
        return now.legs.size();
    }

    public int leg(int leg) {
        index(leg, legs());
        return now.legs.get(leg);
    }

    public boolean isUp(int bend) {
        index(bend, bends());
        return now.ups.get(bend);
    }

    public double deduction() {
        double thickness = now.sheet[0];
        double radius = now.sheet[1];
        double neutral = now.sheet[2];
        return 2 * (radius + thickness) - 1.5708 * (radius + neutral / 100 * thickness);
    }

    public double flatLength() {
        return legs() == 0 ? 0.0 : sumOfLegs(legs()) - bends() * deduction();
    }

    private double sumOfLegs(int count) {
        return now.legs.subList(0, count).stream().mapToInt(i -> i).sum();
    }

    public double linePlace(int bend) {
        index(bend, bends());
        return sumOfLegs(bend + 1) - (bend + 0.5) * deduction();
    }

    public double ratio() {
        return 10.0 * now.sheet[1] / now.sheet[0];
    }

    public double springBack() {
        return springBackFor(ratio());
    }

    public double springBackFor(double ratio) {
        argument(ratio >= 0.0 && ratio <= 9999.0);
        if (now.backs.isEmpty()) {
            return 0.0;
        }
        int[] first = now.backs.get(0);
        int[] last = now.backs.get(now.backs.size() - 1);
        if (ratio <= first[0]) {
            return first[1];
        }
        if (ratio >= last[0]) {
            return last[1];
        }
        int b = 0;
        while (now.backs.get(b)[0] < ratio) {
            b++;
        }
        double[] low = {now.backs.get(b - 1)[0], now.backs.get(b - 1)[1]};
        double[] high = {now.backs.get(b)[0], now.backs.get(b)[1]};
        return low[1] + (high[1] - low[1]) * (ratio - low[0]) / (high[0] - low[0]);
    }

    public int swingAngle() {
        int angle = 900;
        while (angle + 1 - 900 <= springBack()) {
            angle++;
        }
        return angle;
    }

    public int tool(int tool, int what) {
        argument(tool >= 0 && tool <= 4 && what >= 0 && what <= (tool == 4 ? 0 : 1));
        return now.tools[tool][what];
    }

    /** The legs of the finished profile. */
    private List<Leg> finished() {
        List<Leg> all = new ArrayList<>();
        double x = 0;
        double y = 0;
        double dx = 1;
        double dy = 0;
        for (int leg = 0; leg < legs(); leg++) {
            if (leg > 0) {
                double old = dx;
                dx = now.ups.get(leg - 1) ? -dy : dy;
                dy = now.ups.get(leg - 1) ? old : -old;
            }
            double length = now.legs.get(leg);
            all.add(new Leg(x, y, x + length * dx, y + length * dy));
            x += length * dx;
            y += length * dy;
        }
        return all;
    }

    public int finishedWidth() {
        double[] ends = finished().stream().flatMapToDouble(l -> DoubleStream.of(l.x1, l.x2)).sorted()
                .toArray();
        return ends.length == 0 ? 0 : (int) (ends[ends.length - 1] - ends[0]);
    }

    public int finishedHeight() {
        double[] ends = finished().stream().flatMapToDouble(l -> DoubleStream.of(l.y1, l.y2)).sorted()
                .toArray();
        return ends.length == 0 ? 0 : (int) (ends[ends.length - 1] - ends[0]);
    }

    public boolean isFinishedCrossed() {
        return crosses(finished());
    }

    private static boolean crosses(List<Leg> legs) {
        for (int a = 0; a < legs.size(); a++) {
            for (int b = a + 2; b < legs.size(); b++) {
                if (meet(legs.get(a), legs.get(b))) {
                    return true;
                }
            }
        }
        return false;
    }

    /** If two level or upright legs have points in common, an end of one is among them, or the point they cross in. */
    private static boolean meet(Leg a, Leg b) {
        double[][] points = {{a.x1, a.y1}, {a.x2, a.y2}, {b.x1, b.y1}, {b.x2, b.y2}, {a.x1, b.y1}, {b.x1, a.y1}};
        for (double[] p : points) {
            if (a.has(p[0], p[1]) && b.has(p[0], p[1])) {
                return true;
            }
        }
        return false;
    }

    public int finishedCorner(int leg, int what) {
        index(leg, legs());
        argument(what == 0 || what == 1);
        Leg l = finished().get(leg);
        return (int) (what == 0 ? l.x2 : l.y2);
    }

    public boolean isSymmetric() {
        List<Object> legsAndBends = new ArrayList<>();
        for (int leg = 0; leg < legs(); leg++) {
            legsAndBends.add(now.legs.get(leg));
            if (leg < bends()) {
                legsAndBends.add(now.ups.get(leg));
            }
        }
        List<Object> turned = new ArrayList<>(legsAndBends);
        Collections.reverse(turned);
        return turned.equals(legsAndBends);
    }

    public int longestLeg() {
        return legs() == 0 ? NONE : now.legs.indexOf(Collections.max(now.legs));
    }

    // ---- state

    public int made() {
        return now.made();
    }

    public int steps() {
        return now.steps.size();
    }

    public int step(int step, int what) {
        index(step, steps());
        argument(what >= 0 && what <= 3);
        Step s = now.steps.get(step);
        return new int[] {s.bend, s.side, s.gauge, s.cost}[what];
    }

    public int costSoFar() {
        return now.steps.stream().mapToInt(Step::cost).sum();
    }

    // ---- what a step would be

    private static boolean isClamped(int bend, int side, int leg) {
        return side == 0 ? leg <= bend : leg > bend;
    }

    /** The legs by their numbers, each from the end that is nearer to the bend. */
    private static List<Leg> placed(State state, int made, int bend, int side) {
        Leg[] all = new Leg[state.legs.size()];
        for (int half = 0; half < 2; half++) {
            boolean isClamped = half == side;
            int stride = half == 0 ? -1 : 1;
            double x = 0;
            double y = 0;
            double dx = isClamped ? -1 : 0;
            double dy = isClamped ? 0 : 1;
            for (int leg = bend + half; leg >= 0 && leg < all.length; leg += stride) {
                double length = state.legs.get(leg);
                all[leg] = new Leg(x, y, x + length * dx, y + length * dy);
                x += length * dx;
                y += length * dy;
                int over = half == 0 ? leg - 1 : leg;
                if (over >= 0 && over < state.ups.size() && (made & 1 << over) != 0) {
                    boolean isUp = state.ups.get(over) == state.ups.get(bend);
                    boolean isClockwise = isUp == isClamped;
                    double old = dx;
                    dx = isClockwise ? dy : -dy;
                    dy = isClockwise ? -old : old;
                }
            }
        }
        return List.of(all);
    }

    private static boolean enters(Leg leg, Box box) {
        List<Double> xs = new ArrayList<>(List.of(leg.x1, leg.x2));
        List<Double> ys = new ArrayList<>(List.of(leg.y1, leg.y2));
        for (double edge : new double[] {box.left, box.right}) {
            xs.addAll(List.of(edge - 0.5, edge + 0.5));
        }
        for (double edge : new double[] {box.bottom, box.top}) {
            ys.addAll(List.of(edge - 0.5, edge + 0.5));
        }
        for (double x : xs) {
            for (double y : ys) {
                if (leg.has(x, y) && box.hasInside(x, y)) {
                    return true;
                }
            }
        }
        return false;
    }

    private static int hits(State state, List<Leg> legs, int bend, int side) {
        int[][] t = state.tools;
        int hits = 0;
        for (int leg = 0; leg < legs.size(); leg++) {
            boolean isHit = enters(legs.get(leg), new Box(-t[0][0], 0, 0, t[0][1]))
                    || enters(legs.get(leg), new Box(-t[1][0], 0, -t[1][1], 0));
            if (!isClamped(bend, side, leg)) {
                isHit |= enters(legs.get(leg), new Box(0, t[2][0], 0, t[2][1]));
            }
            hits |= isHit ? 1 << leg : 0;
        }
        return hits;
    }

    private static int gaugeOf(List<Leg> legs, int bend, int side) {
        double gauge = 0;
        for (int leg = 0; leg < legs.size(); leg++) {
            if (isClamped(bend, side, leg)) {
                gauge = Math.max(gauge, Math.max(-legs.get(leg).x1, -legs.get(leg).x2));
            }
        }
        return (int) gauge;
    }

    private static int reasonOf(State state, int made, int bend, int side) {
        if ((made & 1 << bend) != 0) {
            return 1;
        }
        if (state.legs.get(side == 0 ? bend + 1 : bend) < state.tools[4][0]) {
            return 2;
        }
        List<Leg> legs = placed(state, made, bend, side);
        int gauge = gaugeOf(legs, bend, side);
        if (gauge < state.tools[3][0] || gauge > state.tools[3][1]) {
            return 3;
        }
        int hits = hits(state, legs, bend, side);
        for (int leg = 0; leg < legs.size(); leg++) {
            if (isClamped(bend, side, leg) && (hits & 1 << leg) != 0) {
                return 4;
            }
        }
        return hits != 0 ? 5 : crosses(legs) ? 6 : 0;
    }

    private static int priceOf(State state, Step before, int bend, int side, int gauge) {
        if (before == null) {
            return 0;
        }
        return (state.ups.get(before.bend) == state.ups.get(bend) ? 0 : state.costs[0])
                + (before.side == side ? 0 : state.costs[1]) + (before.gauge == gauge ? 0 : state.costs[2]);
    }

    private static Step last(State state) {
        return state.steps.isEmpty() ? null : state.steps.get(state.steps.size() - 1);
    }

    public int reason(int bend, int side) {
        known(bend, side);
        return reasonOf(now, made(), bend, side);
    }

    public int gauge(int bend, int side) {
        known(bend, side);
        return gaugeOf(placed(now, made(), bend, side), bend, side);
    }

    public int corner(int bend, int side, int leg, int what) {
        index(bend, bends());
        index(leg, legs());
        argument((side == 0 || side == 1) && (what == 0 || what == 1));
        Leg l = placed(now, made(), bend, side).get(leg);
        return (int) (what == 0 ? l.x2 : l.y2);
    }

    public int top(int bend, int side) {
        known(bend, side);
        List<Leg> all = placed(now, made(), bend, side);
        double top = Double.NEGATIVE_INFINITY;
        for (int leg = 0; leg < all.size(); leg++) {
            if (!isClamped(bend, side, leg)) {
                top = Math.max(top, Math.max(all.get(leg).y1, all.get(leg).y2));
            }
        }
        return (int) top;
    }

    public int hitting(int bend, int side) {
        known(bend, side);
        return hits(now, placed(now, made(), bend, side), bend, side);
    }

    public int refused(int reason) {
        argument(reason >= 1 && reason <= 6);
        int count = 0;
        for (int code = 0; code < 2 * bends(); code++) {
            count += reasonOf(now, made(), code / 2, code % 2) == reason ? 1 : 0;
        }
        return count;
    }

    public int possible() {
        int bits = 0;
        for (int code = 0; code < 2 * bends(); code++) {
            bits += reasonOf(now, made(), code / 2, code % 2) == 0 ? 1 << code : 0;
        }
        return bits;
    }

    public int stuck() {
        int count = 0;
        for (int bend = 0; bend < bends(); bend++) {
            boolean isMade = (made() & 1 << bend) != 0;
            count += !isMade && reason(bend, 0) != 0 && reason(bend, 1) != 0 ? 1 : 0;
        }
        return count;
    }

    public int costOf(int bend, int side) {
        known(bend, side);
        return priceOf(now, last(now), bend, side, gauge(bend, side));
    }

    // ---- orders

    private Ways ways(State state) {
        return ways(state, state.made(), last(state), new HashMap<>(), new HashMap<>());
    }

    private Ways ways(State state, int made, Step before, Map<List<Object>, Ways> told, Map<Integer, Integer> reasons) {
        int bends = state.ups.size();
        if (made == (1 << bends) - 1) {
            return new Ways(1, 0, 0, List.of(), 0, 0);
        }
        List<Object> key = new ArrayList<>(List.of(made));
        if (before != null) {
            key.addAll(List.of(before.bend, before.side, before.gauge));
        }
        if (told.containsKey(key)) {
            return told.get(key);
        }
        Ways all = new Ways(0, NONE, NONE, null, 0, 0);
        for (int code = 0; code < 2 * bends; code++) {
            int bend = code / 2;
            int side = code % 2;
            if (reasons.computeIfAbsent(made * 16 + code, k -> reasonOf(state, made, bend, side)) != 0) {
                continue;
            }
            int gauge = gaugeOf(placed(state, made, bend, side), bend, side);
            int cost = priceOf(state, before, bend, side, gauge);
            Ways behind = ways(state, made | 1 << bend, new Step(bend, side, gauge, cost), told, reasons);
            all = join(all, behind, code, cost);
        }
        told.put(key, all);
        return all;
    }

    /** The ways of a state, and those through one more step of it. */
    private static Ways join(Ways all, Ways behind, int code, int cost) {
        int most = Math.max(all.most, behind.most + 1);
        if (behind.orders == 0) {
            return new Ways(all.orders, all.least, all.greatest, all.best, all.lastSteps, most);
        }
        List<Integer> best = all.best;
        int least = all.least;
        if (best == null || behind.least + cost < least) {
            least = behind.least + cost;
            best = new ArrayList<>(List.of(code));
            best.addAll(behind.best);
        }
        int lastSteps = behind.best.isEmpty() ? 1 << code : behind.lastSteps;
        return new Ways(all.orders + behind.orders, least, Math.max(all.greatest, behind.greatest + cost), best,
                all.lastSteps | lastSteps, most);
    }

    public long orders() {
        return ways(now).orders;
    }

    public int leastCost() {
        return ways(now).least;
    }

    public int plannedSteps() {
        List<Integer> best = ways(now).best;
        return best == null ? NONE : best.size();
    }

    public int planned(int place) {
        List<Integer> best = ways(now).best;
        index(place, best == null ? 0 : best.size());
        return best.get(place);
    }

    public int greatestCost() {
        return ways(now).greatest;
    }

    public long ordersWith(int bend, int side) {
        known(bend, side);
        if (reason(bend, side) != 0) {
            return 0;
        }
        State then = now.copy();
        then.steps.add(new Step(bend, side, gauge(bend, side), 0));
        return ways(then).orders;
    }

    public int lastSteps() {
        return ways(now).lastSteps;
    }

    public int mostBends() {
        return ways(now).most;
    }

    public int greatestBeam() {
        for (int height = 2000; height >= 0; height -= 100) {
            State then = now.copy();
            then.tools[0][1] = height;
            if (ways(then).orders > 0) {
                return height;
            }
        }
        return NONE;
    }

    public int costIfTurned(int bend) {
        index(bend, bends());
        flat();
        State then = now.copy();
        then.ups.set(bend, !now.ups.get(bend));
        return ways(then).least;
    }

    // ---- edits

    private void edit() {
        edits.add(now.copy());
        if (edits.size() > 10) {
            edits.remove(0);
        }
    }

    public int fold(int bend, int side) {
        known(bend, side);
        state(reason(bend, side) == 0);
        Step step = new Step(bend, side, gauge(bend, side), costOf(bend, side));
        edit();
        now.steps.add(step);
        return step.cost;
    }

    public int foldNext() {
        state(plannedSteps() > 0);
        int code = planned(0);
        fold(code / 2, code % 2);
        return code;
    }

    public int unfold() {
        edit();
        int before = steps();
        now.steps.clear();
        return before;
    }

    public int setLeg(int leg, int length) {
        index(leg, legs());
        argument(length >= 1 && length <= 9999);
        flat();
        edit();
        return now.legs.set(leg, length);
    }

    public boolean setDirection(int bend, boolean isUp) {
        index(bend, bends());
        flat();
        edit();
        return now.ups.set(bend, isUp);
    }

    public int setTool(int tool, int first, int second) {
        argument(tool >= 0 && tool <= 4);
        argument(first >= 0 && first <= 9999 && second >= 0 && second <= 9999);
        argument(tool != 4 || second == 0);
        argument(tool != 3 || second >= first);
        edit();
        int before = now.tools[tool][0];
        now.tools[tool] = new int[] {first, second};
        return before;
    }

    public int setSheet(int thickness, int radius, int neutral) {
        argument(thickness >= 1 && thickness <= 60 && radius >= 0 && radius <= 200 && neutral >= 0 && neutral <= 100);
        edit();
        int before = now.sheet[0];
        now.sheet = new int[] {thickness, radius, neutral};
        return before;
    }

    public int setCost(int flip, int turn, int move) {
        argument(flip >= 0 && flip <= 99 && turn >= 0 && turn <= 99 && move >= 0 && move <= 99);
        edit();
        int before = now.costs[0];
        now.costs = new int[] {flip, turn, move};
        return before;
    }

    public int undo() {
        if (edits.isEmpty()) {
            return NONE;
        }
        now = edits.remove(edits.size() - 1);
        return edits.size();
    }

    // ---- output

    public int write() {
        StringBuilder text = new StringBuilder();
        for (int leg = 0; leg < legs(); leg++) {
            if (leg > 0) {
                text.append(isUp(leg - 1) ? "^" : "v").append((made() & 1 << leg - 1) != 0 ? "*" : "");
            }
            text.append(leg(leg));
        }
        output = text + (steps() > 0 ? " cost " + costSoFar() : "");
        return output.length();
    }

    public char written(int k) {
        index(k, output.length());
        return output.charAt(k);
    }

    // ---- what is thrown

    private static void index(int index, int count) {
        if (index < 0 || index >= count) {
            throw new IndexOutOfBoundsException();
        }
    }

    private static void argument(boolean isInRange) {
        if (!isInRange) {
            throw new IllegalArgumentException();
        }
    }

    private static void state(boolean isPossible) {
        if (!isPossible) {
            throw new IllegalStateException();
        }
    }

    private void known(int bend, int side) {
        index(bend, bends());
        argument(side == 0 || side == 1);
    }

    private void flat() {
        state(now.steps.isEmpty());
    }
}
