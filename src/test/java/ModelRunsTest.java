import java.lang.reflect.InvocationTargetException;
import java.lang.reflect.Method;
import java.lang.reflect.Modifier;
import java.util.ArrayList;
import java.util.Arrays;
import java.util.Comparator;
import java.util.List;
import java.util.Random;
import java.util.function.Predicate;

/**
 * Whole runs of calls, all methods mixed, each answer compared with that of the Model. A run is told by its calls if
 * an answer differs.
 */
public final class ModelRunsTest {
    private static final int MOST_CALLS = 512;
    private static final List<String> CHANGES = List.of("fold", "unfold", "setLeg", "setDirection", "setTool", "setSheet",
            "setCost", "undo", "write");
    private static final List<String> ORDERS = List.of("orders", "leastCost", "plannedSteps", "planned", "greatestCost",
            "ordersWith", "lastSteps", "mostBends", "greatestBeam", "costIfTurned", "foldNext");
    private static final List<String> PIECES = List.of(";", " ", "0", "9", "99999", "a", "up 5;", "leg 5;", "down", "beam",
            "back 5 5;", "gauge 9 8;", "\t", "\0", "\n", "\u0080", "\u00FF", "abcdefg", "costs", "sheet 61 1 1;",
            "down 7;up 8;down 9;leg 1;");
    private static final int[] EXTREMES = {Integer.MIN_VALUE, Integer.MAX_VALUE, -1, -2, 10000, 31, 32, 33, 64, 600};

    private final Random random;
    private final SheetFolder folder = new SheetFolder();
    private final Model model = new Model();
    private final List<String> calls = new ArrayList<>();
    private final int size;

    private ModelRunsTest(long seed) {
        random = new Random(seed);
        size = upTo(9) == 0 ? 8 : upTo(9) == 0 ? upTo(1) : 2 + upTo(3);
    }

    public static void main(String[] args) throws ReflectiveOperationException {
        long from = args.length > 0 ? Long.parseLong(args[0]) : 0;
        long count = args.length > 1 ? Long.parseLong(args[1]) : 800;
        for (long seed = from; seed < from + count; seed++) {
            new ModelRunsTest(seed).run();
        }
        Check.end();
    }

    private void run() throws ReflectiveOperationException {
        List<Method> changes = methods(CHANGES::contains);
        List<Method> orders = methods(ORDERS::contains);
        List<Method> others = methods(name -> !CHANGES.contains(name) && !ORDERS.contains(name));
        boolean isLarge = size > 5;
        int most = isLarge ? 60 : upTo(3) == 0 ? MOST_CALLS : 120;
        boolean isRight = loaded();
        while (isRight && calls.size() < most) {
            int kind = upTo(99);
            if (kind < 2 && calls.size() < most - 40) {
                isRight = loaded();
            } else {
                List<Method> from = kind < 25 ? changes : kind < (isLarge ? 40 : 60) ? orders : others;
                Method drawn = from.get(random.nextInt(from.size()));
                // A load of what random calls fed takes the profile away.
                boolean isLeftOut = drawn.getName().equals("load") && upTo(9) > 0;
                isRight = isLeftOut || compared(drawn);
            }
        }
    }

    private static List<Method> methods(Predicate<String> isWanted) {
        List<Method> methods = new ArrayList<>(List.of(SheetFolder.class.getDeclaredMethods()));
        methods.removeIf(m -> !Modifier.isPublic(m.getModifiers()) || !isWanted.test(m.getName()));
        methods.sort(Comparator.comparing(Method::getName));
        return methods;
    }

    // ---- texts

    private boolean loaded() throws ReflectiveOperationException {
        String text = text();
        if (upTo(5) == 0) {
            text = spoiled(text);
        }
        boolean isRight = true;
        Method feed = SheetFolder.class.getMethod("feed", int.class, int.class, int.class, int.class, int.class);
        for (int from = 0; from < text.length() && isRight; from += 20) {
            Object[] words = new Object[5];
            for (int word = 0; word < 5; word++) {
                int value = 0;
                for (int i = from + 4 * word; i < from + 4 * word + 4; i++) {
                    value = value << 8 | (i < text.length() ? text.charAt(i) : ' ');
                }
                words[word] = value;
            }
            isRight = compared(feed, words);
        }
        int length = upTo(19) == 0 ? upTo(text.length()) : Math.min(600, text.length());
        return isRight && compared(SheetFolder.class.getMethod("load", int.class), length)
                && compared(SheetFolder.class.getMethod("errorKind"))
                && compared(SheetFolder.class.getMethod("errorPosition"));
    }

    private String text() {
        int[] greatest = {4, 12, 60, 400, 9999};
        int longest = greatest[upTo(4)];
        int tools = upTo(3) == 0 ? 0 : Math.min(9999, longest * (1 + upTo(2)) / (1 + upTo(9)));
        List<String> legs = new ArrayList<>();
        // Rolled up, a sheet is likely to hit itself.
        int ofTwelveUp = upTo(2) == 0 ? 11 : 6;
        for (int leg = 0; leg <= size; leg++) {
            legs.add((leg == 0 ? "leg " : upTo(11) < ofTwelveUp ? "up " : "down ") + (1 + upTo(longest - 1)) + ";");
        }
        if (upTo(29) == 0) {
            legs.clear();
        }
        List<String> others = new ArrayList<>();
        for (String name : List.of("beam", "table", "wing")) {
            if (upTo(7) > 0) {
                others.add(name + " " + upTo(tools) + " " + (upTo(7) == 0 ? upTo(2500) : upTo(tools)) + ";");
            }
        }
        addSometimes(others, "sheet " + (1 + upTo(59)) + " " + upTo(200) + " " + upTo(100) + ";");
        addSometimes(others, "cost " + upTo(3) + " " + upTo(3) + " " + upTo(99) + ";");
        if (upTo(6) == 0) {
            int least = upTo(longest);
            others.add("gauge " + least + " " + Math.min(9999, least + upTo(3 * longest)) + ";");
        }
        if (upTo(5) == 0) {
            others.add("flange " + upTo(longest / 3) + ";");
        }
        return joined(mixed(mixed(legs, others), backs()));
    }

    private void addSometimes(List<String> statements, String statement) {
        if (upTo(2) > 0) {
            statements.add(statement);
        }
    }

    private List<String> backs() {
        List<String> backs = new ArrayList<>();
        int ratio = upTo(30) - 1;
        int[] widths = {1, 10, 100};
        int width = widths[upTo(2)];
        for (int back = upTo(8); back > 0 && ratio < 990 - width; back--) {
            ratio += 1 + upTo(width);
            backs.add("back " + ratio + " " + upTo(300) + ";");
        }
        return backs;
    }

    /** The statements of both, each one's in their order. */
    private List<String> mixed(List<String> a, List<String> b) {
        List<String> all = new ArrayList<>();
        int i = 0;
        int k = 0;
        while (i < a.size() || k < b.size()) {
            boolean isFirst = k == b.size() || i < a.size() && upTo(1) == 0;
            all.add(isFirst ? a.get(i++) : b.get(k++));
        }
        return all;
    }

    private String joined(List<String> statements) {
        StringBuilder text = new StringBuilder();
        String[] between = {"", "", " ", "\n", "  \n"};
        for (String statement : statements) {
            if (text.length() + statement.length() < 590) {
                text.append(statement).append(between[upTo(4)]);
            }
        }
        return text.toString();
    }

    /** With one place or two changed. */
    private String spoiled(String text) {
        String spoiled = text;
        for (int times = upTo(1); times >= 0; times--) {
            int at = upTo(spoiled.length());
            int to = Math.min(spoiled.length(), at + (upTo(1) == 0 ? 0 : upTo(4)));
            String piece = upTo(3) == 0 ? "" : PIECES.get(upTo(PIECES.size() - 1));
            spoiled = spoiled.substring(0, at) + piece + spoiled.substring(to);
        }
        return spoiled.substring(0, Math.min(600, spoiled.length()));
    }

    // ---- calls

    private boolean compared(Method method) throws ReflectiveOperationException {
        return compared(method, parameters(method));
    }

    private boolean compared(Method method, Object... given) throws ReflectiveOperationException {
        String call = method.getName() + Arrays.toString(given).replace('[', '(').replace(']', ')');
        String got = answer(folder, method, given);
        String due = answer(model, Model.class.getMethod(method.getName(), method.getParameterTypes()), given);
        calls.add(call + " -> " + due);
        Check.sameText(call, got, due);
        if (!got.equals(due)) {
            System.out.println("the run: " + String.join("; ", calls));
        }
        return got.equals(due);
    }

    private static String answer(Object object, Method method, Object[] given) throws ReflectiveOperationException {
        try {
            return String.valueOf(method.invoke(object, given));
        } catch (InvocationTargetException e) {
            return "throws " + e.getCause().getClass().getSimpleName();
        }
    }

    private int upTo(int greatest) {
        return random.nextInt(Math.max(0, greatest) + 1);
    }

    private Object[] parameters(Method method) {
        int[] limits = limits(method.getName());
        Class<?>[] types = method.getParameterTypes();
        Object[] given = new Object[types.length];
        for (int i = 0; i < types.length; i++) {
            if (method.getName().equals("feed")) {
                given[i] = 0x20202020;
            } else if (types[i] == boolean.class) {
                given[i] = random.nextBoolean();
            } else if (types[i] == double.class) {
                given[i] = ratio();
            } else {
                given[i] = number(limits[i]);
            }
        }
        return given;
    }

    /** The greatest number that is right for each parameter, more or less. */
    private int[] limits(String name) {
        int bend = model.bends() - 1;
        int leg = model.legs() - 1;
        return switch (name) {
            case "corner" -> new int[] {bend, 1, leg, 1};
            case "leg" -> new int[] {leg};
            case "finishedCorner" -> new int[] {leg, 1};
            case "setLeg" -> new int[] {leg, upTo(2) == 0 ? 9999 : 60};
            case "tool" -> new int[] {4, 1};
            case "step" -> new int[] {model.steps() - 1, 3};
            case "refused" -> new int[] {6};
            case "planned" -> new int[] {Math.max(0, bend + 1 - model.steps()) - 1};
            case "setTool" -> new int[] {upTo(9) < 8 ? 2 : 4, upTo(4) == 0 ? 9999 : 40, upTo(2) * 200};
            case "setSheet" -> new int[] {60, 200, 100};
            case "setCost" -> new int[] {99, 99, 99};
            case "written" -> new int[] {60};
            case "load" -> new int[] {upTo(40)};
            default -> new int[] {bend, 1};
        };
    }

    private int number(int limit) {
        int kind = upTo(39);
        if (kind == 0) {
            return EXTREMES[upTo(EXTREMES.length - 1)];
        }
        return kind == 1 ? limit + 1 : upTo(limit);
    }

    private double ratio() {
        double[] extremes = {Double.NaN, -0.0, 9999.0, 9999.0000001, -Double.MIN_VALUE, Double.POSITIVE_INFINITY, -1.0,
            Double.NEGATIVE_INFINITY, Double.MIN_VALUE};
        int kind = upTo(9);
        return kind == 0 ? extremes[upTo(extremes.length - 1)] : kind < 4 ? upTo(120) : random.nextDouble() * 150;
    }
}
