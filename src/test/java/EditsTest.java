import java.util.List;
import java.util.function.Consumer;

/** Promises 47 to 55: the edits and undo. */
public final class EditsTest {
    private static final String TEXT = "leg 100;up 50;up 100;beam 200 30;cost 3 2 3;";

    public static void main(String[] args) {
        folding();
        foldingNext();
        unfolding();
        legs();
        directions();
        tools();
        sheets();
        costs();
        undoing();
        remembering();
        Check.end();
    }

    private static void unchanged(String call, SheetFolder x, String before, int edits) {
        Check.sameText(call + " changes nothing", Check.picture(x), before);
        int left = 0;
        while (left < 20 && x.undo() != SheetFolder.NONE) {
            left++;
        }
        Check.same(call + " is no edit", left, edits);
    }

    private static void folding() {
        SheetFolder x = Check.folder(TEXT);
        Check.same("47 the first costs nothing", x.fold(0, 0), 0);
        String before = Check.picture(x);
        Check.state("47 made already", () -> x.fold(0, 0));
        Check.state("47 refused", () -> x.fold(1, 0));
        Check.index("47 bend first", () -> x.fold(2, 2));
        Check.index("47 bend -1", () -> x.fold(-1, 0));
        Check.argument("47 side before state", () -> x.fold(0, 2));
        Check.argument("47 side -1", () -> x.fold(1, -1));
        unchanged("47", x, before, 1);
        x.fold(0, 0);
        Check.same("47 turn and move", x.fold(1, 1), 2);
        Check.same("47 steps", x.steps(), 2);
    }

    private static void foldingNext() {
        SheetFolder x = Check.folder(TEXT);
        Check.same("48 first", x.foldNext(), 0);
        Check.same("48 second", x.foldNext(), 3);
        String before = Check.picture(x);
        Check.state("48 all bends are made", x::foldNext);
        unchanged("48", x, before, 2);
        x.setDirection(1, false);
        Check.state("48 no order", x::foldNext);
        Check.state("48 no legs", () -> new SheetFolder().foldNext());
        Check.same("48 nothing was made", x.steps(), 0);
    }

    private static void unfolding() {
        SheetFolder x = Check.folder(TEXT);
        Check.same("49 nothing made", x.unfold(), 0);
        Check.same("49 is an edit", x.undo(), 0);
        x.foldNext();
        x.foldNext();
        String before = Check.picture(x);
        Check.same("49 two", x.unfold(), 2);
        Check.same("49 flat", x.made() + x.steps() + x.costSoFar(), 0);
        Check.index("49 no step", () -> x.step(0, 0));
        Check.same("55 undo", x.undo(), 2);
        Check.sameText("55 all steps again", Check.picture(x), before);
    }

    private static void legs() {
        SheetFolder x = Check.folder(TEXT);
        Check.same("50 setLeg", x.setLeg(2, 9999), 100);
        Check.same("50 set", x.leg(2), 9999);
        Check.same("50 again", x.setLeg(2, 1), 9999);
        String before = Check.picture(x);
        Check.index("50 leg first", () -> x.setLeg(3, 0));
        Check.index("50 leg -1", () -> x.setLeg(-1, 5));
        Check.argument("50 length 0", () -> x.setLeg(0, 0));
        Check.argument("50 length 10000", () -> x.setLeg(0, 10000));
        Check.argument("50 length -1", () -> x.setLeg(0, -1));
        unchanged("50", x, before, 2);
        x.fold(0, 0);
        Check.state("50 a step was made", () -> x.setLeg(0, 5));
        Check.argument("50 length before state", () -> x.setLeg(0, 0));
        Check.index("50 leg before state", () -> x.setLeg(3, 5));
        Check.index("50 no legs", () -> new SheetFolder().setLeg(0, 5));
    }

    private static void directions() {
        SheetFolder x = Check.folder(TEXT);
        Check.same("51 was up", x.setDirection(1, false), true);
        Check.same("51 is down", x.isUp(1), false);
        Check.same("51 the other stays", x.isUp(0), true);
        Check.same("51 was down", x.setDirection(1, false), false);
        Check.same("51 still down", x.isUp(1), false);
        Check.same("51 up again", x.setDirection(1, true), false);
        String before = Check.picture(x);
        Check.index("51 bend 2", () -> x.setDirection(2, true));
        Check.index("51 bend -1", () -> x.setDirection(-1, true));
        unchanged("51", x, before, 3);
        x.fold(0, 0);
        Check.state("51 a step was made", () -> x.setDirection(0, true));
        Check.index("51 bend before state", () -> x.setDirection(2, true));
    }

    private static void tools() {
        SheetFolder x = Check.folder(TEXT);
        x.fold(0, 0);
        int[] due = {200, 300, 200, 0, 0};
        for (int tool = 0; tool < 5; tool++) {
            int second = tool == 4 ? 0 : 9999;
            Check.same("52 the previous first of " + tool, x.setTool(tool, 9990 + tool, second), due[tool]);
            Check.same("52 the first of " + tool, x.tool(tool, 0), 9990 + tool);
            if (tool < 4) {
                Check.same("52 the second of " + tool, x.tool(tool, 1), second);
            }
        }
        String before = Check.picture(x);
        Check.argument("52 tool -1", () -> x.setTool(-1, 0, 0));
        Check.argument("52 tool 5", () -> x.setTool(5, 0, 0));
        for (int tool = 0; tool < 5; tool++) {
            int t = tool;
            Check.argument("52 first -1", () -> x.setTool(t, -1, 0));
            Check.argument("52 first 10000", () -> x.setTool(t, 10000, t == 4 ? 0 : 9999));
            Check.argument("52 second -1", () -> x.setTool(t, 0, -1));
            Check.argument("52 second 10000", () -> x.setTool(t, 0, 10000));
        }
        Check.argument("52 MOST below LEAST", () -> x.setTool(3, 5, 4));
        Check.argument("52 flange, second", () -> x.setTool(4, 0, 1));
        unchanged("52", x, before, 6);
        Check.same("52 MOST as LEAST", x.setTool(3, 5, 5), 0);
        Check.same("52 height below depth", x.setTool(0, 9, 4), 200);
    }

    private static void sheets() {
        SheetFolder x = Check.folder(TEXT);
        x.fold(0, 0);
        Check.same("53 the previous thickness", x.setSheet(60, 200, 100), 10);
        Check.same("53 the one before", x.setSheet(1, 0, 0), 60);
        Check.sameDouble("53 ratio", x.ratio(), 0.0);
        Check.sameDouble("53 deduction", x.deduction(), 2.0);
        String before = Check.picture(x);
        int[][] wrong = {{0, 0, 0}, {61, 0, 0}, {1, -1, 0}, {1, 201, 0}, {1, 0, -1}, {1, 0, 101}};
        for (int[] w : wrong) {
            Check.argument("53 out of range", () -> x.setSheet(w[0], w[1], w[2]));
        }
        unchanged("53", x, before, 3);
    }

    private static void costs() {
        SheetFolder x = Check.folder(TEXT);
        x.fold(0, 0);
        x.fold(1, 1);
        int soFar = x.costSoFar();
        Check.same("54 the previous flip", x.setCost(99, 0, 99), 3);
        Check.same("54 the one before", x.setCost(0, 99, 0), 99);
        Check.same("54 steps keep their costs", x.costSoFar(), soFar);
        Check.same("54 new costs", x.costOf(0, 0), 99);
        String before = Check.picture(x);
        int[][] wrong = {{-1, 0, 0}, {100, 0, 0}, {0, -1, 0}, {0, 100, 0}, {0, 0, -1}, {0, 0, 100}};
        for (int[] w : wrong) {
            Check.argument("54 out of range", () -> x.setCost(w[0], w[1], w[2]));
        }
        unchanged("54", x, before, 4);
    }

    private static void undoing() {
        List<Consumer<SheetFolder>> edits = List.of(x -> x.setLeg(0, 90), x -> x.setDirection(1, false),
                x -> x.setDirection(1, true), x -> x.setTool(2, 5, 6), x -> x.setSheet(9, 9, 9), x -> x.setCost(7, 8, 9),
                x -> x.fold(0, 0), SheetFolder::foldNext, SheetFolder::unfold);
        for (int kept = 0; kept < edits.size(); kept++) {
            SheetFolder x = edited(edits, edits.size());
            for (int left = edits.size() - 1; left >= kept; left--) {
                Check.same("55 edits left", x.undo(), left);
            }
            Check.sameText("55 as before edit " + kept, Check.picture(x), Check.picture(edited(edits, kept)));
        }
        SheetFolder none = edited(edits, 0);
        String before = Check.picture(none);
        Check.same("55 nothing to undo", none.undo(), SheetFolder.NONE);
        Check.sameText("55 nothing undone", Check.picture(none), before);
        Check.same("55 a new object", new SheetFolder().undo(), SheetFolder.NONE);
    }

    private static SheetFolder edited(List<Consumer<SheetFolder>> edits, int count) {
        SheetFolder x = Check.folder(TEXT + "back 5 5;back 15 25;");
        for (Consumer<SheetFolder> edit : edits.subList(0, count)) {
            edit.accept(x);
        }
        return x;
    }

    private static void remembering() {
        SheetFolder x = Check.folder(TEXT);
        for (int length = 1; length <= 25; length++) {
            x.setLeg(0, length);
        }
        for (int left = 9; left >= 0; left--) {
            Check.same("55 ten are remembered", x.undo(), left);
            Check.same("55 the leg", x.leg(0), 15 + left);
        }
        Check.same("55 the eleventh is forgotten", x.undo(), SheetFolder.NONE);
        x.setLeg(0, 77);
        x.setLeg(0, 78);
        Check.same("55 edits behind undo", x.undo(), 1);
        x.setLeg(0, 79);
        Check.same("55 the latest that is not undone", x.undo(), 1);
        Check.same("55 the leg", x.leg(0), 77);
        Check.same("55 the first", x.undo(), 0);
        Check.same("55 the leg", x.leg(0), 15);
    }
}
