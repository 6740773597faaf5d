import java.util.ArrayList;
import java.util.List;
import java.util.Map;
import java.util.Random;
import java.util.regex.Matcher;
import java.util.regex.Pattern;

/** Compares load with a slow model of TEXT, on many texts that are legal or nearly so. */
public final class TextModelTest {
    private static final Random RANDOM = new Random(11);
    private static final Pattern TOKEN = Pattern.compile("[a-z]+|[0-9]+|[^ \n]", Pattern.DOTALL);
    private static final Map<String, int[][]> RANGES = Map.ofEntries(
            Map.entry("sheet", new int[][] {{1, 60}, {0, 200}, {0, 100}}),
            Map.entry("leg", new int[][] {{1, 9999}}),
            Map.entry("up", new int[][] {{1, 9999}}),
            Map.entry("down", new int[][] {{1, 9999}}),
            Map.entry("back", new int[][] {{0, 999}, {0, 300}}),
            Map.entry("beam", new int[][] {{0, 9999}, {0, 9999}}),
            Map.entry("table", new int[][] {{0, 9999}, {0, 9999}}),
            Map.entry("wing", new int[][] {{0, 9999}, {0, 9999}}),
            Map.entry("gauge", new int[][] {{0, 9999}, {0, 9999}}),
            Map.entry("flange", new int[][] {{0, 9999}}),
            Map.entry("cost", new int[][] {{0, 99}, {0, 99}, {0, 99}}));
    private static final String[] WORDS = {"sheet", "leg", "up", "down", "back", "beam", "table", "wing", "gauge",
        "flange", "cost"};
    private static final String[] TOOLS = {"beam", "table", "wing", "gauge", "flange"};

    private final List<int[]> bends = new ArrayList<>();
    private final List<int[]> backs = new ArrayList<>();
    private final List<List<Integer>> tools = new ArrayList<>();
    private int kind = 0;
    private int position = SheetFolder.NONE;

    public static void main(String[] args) {
        int[] seen = new int[6];
        for (int run = 0; run < 40000; run++) {
            String text = spoiled(statements());
            if (text.length() <= 600) {
                TextModelTest model = new TextModelTest();
                model.read(text);
                model.compare(text);
                seen[model.kind]++;
            }
        }
        for (int kind = 0; kind < seen.length; kind++) {
            Check.same("texts of kind " + kind + " are drawn often", seen[kind] > 500, true);
        }
        Check.end();
    }

    // ---- drawing texts

    private static String statements() {
        StringBuilder text = new StringBuilder();
        boolean hasLeg = false;
        int ratio = -1;
        int count = RANDOM.nextInt(24);
        for (int i = 0; i < count; i++) {
            String word = WORDS[RANDOM.nextInt(WORDS.length)];
            word = RANDOM.nextInt(3) == 0 ? "up" : RANDOM.nextInt(4) == 0 ? "back" : word;
            boolean isBend = word.equals("up") || word.equals("down");
            if (RANDOM.nextInt(60) != 0 && (hasLeg && word.equals("leg") || !hasLeg && isBend)) {
                word = hasLeg ? "down" : "leg";
            }
            hasLeg |= word.equals("leg");
            text.append(word);
            int first = 0;
            int[][] ranges = RANGES.get(word);
            for (int place = 0; place < ranges.length; place++) {
                int least = word.equals("back") && place == 0 ? ratio + 1
                        : word.equals("gauge") && place == 1 ? first : ranges[place][0];
                int number = draw(least, ranges[place][1]);
                ratio = word.equals("back") && place == 0 ? number : ratio;
                first = place == 0 ? number : first;
                text.append(blanks(place == 0 ? 0 : 1)).append(number);
            }
            text.append(blanks(0)).append(';').append(blanks(0));
        }
        return text.toString();
    }

    private static int draw(int least, int greatest) {
        switch (RANDOM.nextInt(40)) {
            case 0: return Math.max(0, least - 1);
            case 1: return greatest + 1;
            case 2: case 3: case 4: return least;
            case 5: return greatest;
            default: return least + RANDOM.nextInt(Math.max(1, Math.min(40, greatest - least + 1)));
        }
    }

    private static String blanks(int least) {
        int count = Math.max(least, RANDOM.nextInt(3) - 1);
        return (RANDOM.nextBoolean() ? " " : "\n").repeat(count);
    }

    private static String spoiled(String text) {
        StringBuilder spoiled = new StringBuilder(text);
        for (int i = RANDOM.nextInt(3); i > 0 && spoiled.length() > 0; i--) {
            int place = RANDOM.nextInt(spoiled.length());
            switch (RANDOM.nextInt(6)) {
                case 0: spoiled.deleteCharAt(place); break;
                case 1: spoiled.setLength(place); break;
                case 2: spoiled.insert(place, (char) RANDOM.nextInt(256)); break;
                case 3: spoiled.insert(place, spoiled.charAt(place)); break;
                default: break;
            }
        }
        return spoiled.toString();
    }

    // ---- the model: tokens, and what could stand in place of each

    private void read(String text) {
        for (int i = 0; i < TOOLS.length; i++) {
            tools.add(i == 4 ? List.of(0) : i == 3 ? List.of(0, 9999) : i == 2 ? List.of(200, 400) : List.of(300, 600));
        }
        List<String> statement = new ArrayList<>();
        Matcher matcher = TOKEN.matcher(text);
        while (kind == 0 && matcher.find()) {
            kind = kindOf(matcher.group(), statement);
            position = kind == 0 ? SheetFolder.NONE : matcher.start();
            statement.add(matcher.group());
            if (kind == 0 && matcher.group().equals(";")) {
                take(statement);
                statement.clear();
            }
        }
        if (kind == 0 && !statement.isEmpty()) {
            kind = 2;
            position = text.length();
        }
    }

    private int kindOf(String token, List<String> ahead) {
        if (!token.matches("[a-z]{1,6}|[0-9]{1,4}|;")) {
            return 1;
        }
        if (ahead.isEmpty()) {
            return kindOfWord(token);
        }
        int[][] ranges = RANGES.get(ahead.get(0));
        if (ahead.size() > ranges.length) {
            return token.equals(";") ? 0 : 2;
        }
        return token.matches("[0-9]+") ? kindOfNumber(Integer.parseInt(token), ranges[ahead.size() - 1], ahead) : 2;
    }

    private int kindOfWord(String token) {
        boolean isBend = token.equals("up") || token.equals("down");
        if (!RANGES.containsKey(token)) {
            return 2;
        }
        if (token.equals("leg") && !bends.isEmpty() || isBend && bends.isEmpty()) {
            return 4;
        }
        // The first leg is kept with the bends.
        return isBend && bends.size() == 9 || token.equals("back") && backs.size() == 8 ? 5 : 0;
    }

    private int kindOfNumber(int number, int[] range, List<String> ahead) {
        int least = range[0];
        if (ahead.get(0).equals("back") && ahead.size() == 1 && !backs.isEmpty()) {
            least = backs.get(backs.size() - 1)[0] + 1;
        }
        if (ahead.get(0).equals("gauge") && ahead.size() == 2) {
            least = Integer.parseInt(ahead.get(1));
        }
        return number < least || number > range[1] ? 3 : 0;
    }

    private void take(List<String> statement) {
        String word = statement.get(0);
        List<Integer> numbers = new ArrayList<>();
        for (String token : statement.subList(1, statement.size() - 1)) {
            numbers.add(Integer.parseInt(token));
        }
        if (RANGES.get(word).length == 1 && !word.equals("flange")) {
            bends.add(new int[] {numbers.get(0), word.equals("up") ? 1 : 0});
        } else if (word.equals("back")) {
            backs.add(new int[] {numbers.get(0), numbers.get(1)});
        }
        for (int tool = 0; tool < TOOLS.length; tool++) {
            if (TOOLS[tool].equals(word)) {
                tools.set(tool, numbers);
            }
        }
    }

    // ---- the comparison

    private void compare(String text) {
        SheetFolder x = new SheetFolder();
        String call = "\"" + text + "\": ";
        int answer = Check.load(x, text);
        Check.same(call + "4 errorKind", x.errorKind(), kind);
        Check.same(call + "5 errorPosition", x.errorPosition(), position);
        if (kind != 0) {
            Check.same(call + "3 load", answer, SheetFolder.BAD_TEXT);
            return;
        }
        Check.same(call + "3 load", answer, Math.max(0, bends.size() - 1));
        Check.same(call + "7 legs", x.legs(), bends.size());
        for (int leg = 0; leg < bends.size(); leg++) {
            Check.same(call + "8 leg " + leg, x.leg(leg), bends.get(leg)[0]);
            if (leg > 0) {
                Check.same(call + "9 isUp " + (leg - 1), x.isUp(leg - 1), bends.get(leg)[1] == 1);
            }
        }
        for (int[] back : backs) {
            Check.sameDouble(call + "15 springBackFor " + back[0], x.springBackFor(back[0]), back[1]);
        }
        for (int tool = 0; tool < TOOLS.length; tool++) {
            for (int what = 0; what < tools.get(tool).size(); what++) {
                Check.same(call + "17 tool " + tool + " " + what, x.tool(tool, what), tools.get(tool).get(what));
            }
        }
    }
}
