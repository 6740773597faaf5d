import java.util.ArrayDeque;
import java.util.Deque;
import java.util.Random;
import java.util.function.Consumer;
import java.util.function.Supplier;

/** The sentences of ERRORS AND EDITS, and of the promises 47 to 57, that name a boundary: a method for each. */
public final class EditBoundsTest {
    public static void main(String[] args) {
        eachEditCanBeUndone();
        anEditThatChangesNothingCanBeUndone();
        asManyAsTenAreRemembered();
        theOldestOneIsForgotten();
        editsBehindUndo();
        theStepsComeBack();
        noEditIsLeft();
        whatIsNoEdit();
        aLegalTextForgetsAllEdits();
        anIllegalTextForgetsNone();
        foldIsRefusedForEachReason();
        foldMakesTheFirstAndTheLastStep();
        foldNextUpToTheLastStep();
        unfoldFromNoneToAll();
        setLegFromOneToTheGreatest();
        setLegOnAFlatSheetAlone();
        setDirectionOfTheFirstAndTheLastBend();
        setDirectionOnAFlatSheetAlone();
        setToolAtTheEndsOfItsRanges();
        setSheetAtTheEndsOfItsRanges();
        setCostAtTheEndsOfItsRanges();
        costsOfStepsThatWereMadeStay();
        nothingWasWrittenYet();
        theOutputFromNoCharacterToTheLongest();
        theOutputStaysUntilTheNextWrite();
        Check.end();
    }

    // ---- edits and undo

    private static SheetFolder flat() {
        SheetFolder x = Check.folder("leg 30;up 20;down 25;up 40;cost 4 5 6;back 5 7;back 15 27;sheet 4 5 6;" + Check.NO_TOOLS);
        x.setTool(3, 1, 9998);
        x.write();
        return x;
    }

    private static SheetFolder folded() {
        SheetFolder x = flat();
        x.fold(1, 1);
        return x;
    }

    private static void undone(String call, Supplier<SheetFolder> make, int edits, Consumer<SheetFolder> edit) {
        SheetFolder x = make.get();
        edit.accept(x);
        Check.same("55 " + call + " is remembered", x.undo(), edits);
        Check.sameText("55 " + call + " is undone", Check.story(x), Check.story(make.get()));
    }

    private static void eachEditCanBeUndone() {
        undone("fold", EditBoundsTest::flat, 1, x -> x.fold(0, 1));
        undone("fold", EditBoundsTest::folded, 2, x -> x.fold(2, 0));
        undone("foldNext", EditBoundsTest::flat, 1, SheetFolder::foldNext);
        undone("foldNext", EditBoundsTest::folded, 2, SheetFolder::foldNext);
        undone("unfold", EditBoundsTest::folded, 2, SheetFolder::unfold);
        undone("setLeg", EditBoundsTest::flat, 1, x -> x.setLeg(3, 9));
        undone("setDirection", EditBoundsTest::flat, 1, x -> x.setDirection(2, false));
        undone("setTool", EditBoundsTest::flat, 1, x -> x.setTool(4, 9, 0));
        undone("setTool", EditBoundsTest::folded, 2, x -> x.setTool(0, 9, 9));
        undone("setSheet", EditBoundsTest::flat, 1, x -> x.setSheet(9, 9, 9));
        undone("setSheet", EditBoundsTest::folded, 2, x -> x.setSheet(9, 9, 9));
        undone("setCost", EditBoundsTest::flat, 1, x -> x.setCost(9, 9, 9));
        undone("setCost", EditBoundsTest::folded, 2, x -> x.setCost(9, 9, 9));
    }

    private static void anEditThatChangesNothingCanBeUndone() {
        undone("unfold of a flat sheet", EditBoundsTest::flat, 1, SheetFolder::unfold);
        undone("unfold without legs", SheetFolder::new, 0, SheetFolder::unfold);
        undone("the same leg", EditBoundsTest::flat, 1, x -> x.setLeg(1, 20));
        undone("the same direction", EditBoundsTest::flat, 1, x -> x.setDirection(1, false));
        undone("the same tool", EditBoundsTest::flat, 1, x -> x.setTool(3, 1, 9998));
        undone("the same sheet", EditBoundsTest::flat, 1, x -> x.setSheet(4, 5, 6));
        undone("the same costs", EditBoundsTest::flat, 1, x -> x.setCost(4, 5, 6));
    }

    private static void asManyAsTenAreRemembered() {
        for (int edits = 0; edits <= 31; edits++) {
            SheetFolder x = Check.folder("leg 9000;");
            for (int edit = 1; edit <= edits; edit++) {
                Check.same("50 the one before", x.setLeg(0, edit), edit == 1 ? 9000 : edit - 1);
            }
            int kept = Math.min(edits, 10);
            for (int left = kept - 1; left >= 0; left--) {
                Check.same("55 of " + edits + " edits", x.undo(), left);
                int before = edits - kept + left;
                Check.same("55 as it was", x.leg(0), before == 0 ? 9000 : before);
            }
            Check.same("55 no more of " + edits, x.undo(), SheetFolder.NONE);
            Check.same("55 none, again", x.undo(), SheetFolder.NONE);
            Check.same("55 nothing changes then", x.leg(0), edits <= 10 ? 9000 : edits - 10);
        }
    }

    private static void theOldestOneIsForgotten() {
        // The eleventh edit drives out the fold; what is left is undone to the state behind the fold.
        SheetFolder x = flat();
        x.undo();
        x.fold(0, 0);
        x.fold(2, 1);
        for (int edit = 0; edit < 9; edit++) {
            x.setCost(edit, edit, edit);
        }
        int left = 9;
        while (x.undo() != SheetFolder.NONE) {
            left--;
        }
        Check.same("55 ten were left", left, -1);
        Check.same("55 the first fold stays", x.made(), 1);
    }

    private static void editsBehindUndo() {
        // A model of ten edits: what leg 0 was before each of them.
        Random random = new Random(5);
        for (int run = 0; run < 50; run++) {
            SheetFolder x = Check.folder("leg 9000;");
            Deque<Integer> before = new ArrayDeque<>();
            int length = 9000;
            int undos = 1 + run % 4;
            for (int call = 0; call < 250; call++) {
                if (random.nextInt(6) < undos) {
                    boolean isNone = before.isEmpty();
                    length = isNone ? length : before.removeLast();
                    Check.same("55 left", x.undo(), isNone ? SheetFolder.NONE : before.size());
                    Check.same("55 leg 0 is as before", x.leg(0), length);
                } else {
                    Check.same("50 the one before", x.setLeg(0, call + 1), length);
                    before.addLast(length);
                    length = call + 1;
                    if (before.size() > 10) {
                        before.removeFirst();
                    }
                }
            }
        }
    }

    private static void theStepsComeBack() {
        SheetFolder x = Check.folder(Check.NINE_LEGS + "cost 1 2 4;");
        x.fold(7, 1);
        x.fold(2, 0);
        x.fold(5, 1);
        String before = Check.picture(x);
        x.unfold();
        x.fold(0, 0);
        x.fold(1, 1);
        x.fold(3, 0);
        for (int left = 6; left >= 3; left--) {
            Check.same("55 the other steps, then unfold", x.undo(), left);
        }
        Check.sameText("55 the steps as they were", Check.picture(x), before);
        Check.same("55 the third step", x.undo(), 2);
        Check.same("55 the second step", x.undo(), 1);
        Check.same("26 the first step is left", x.step(0, 0), 7);
    }

    private static void noEditIsLeft() {
        for (String text : new String[] {"", "leg 5;", Check.NINE_LEGS}) {
            SheetFolder x = Check.folder(text);
            Check.same("55 none", x.undo(), SheetFolder.NONE);
            Check.same("55 none, again", x.undo(), SheetFolder.NONE);
            Check.sameText("55 nothing changes", Check.story(x), Check.story(Check.folder(text)));
        }
        SheetFolder one = flat();
        Check.same("55 the only one", one.undo(), 0);
        Check.same("55 none behind it", one.undo(), SheetFolder.NONE);
        one.setLeg(0, 9);
        Check.same("55 a new one", one.undo(), 0);
        Check.same("55 none behind it", one.undo(), SheetFolder.NONE);
    }

    private static void whatIsNoEdit() {
        SheetFolder x = folded();
        Check.picture(x);
        x.greatestBeam();
        x.ordersWith(0, 0);
        x.lastSteps();
        x.mostBends();
        x.write();
        x.feed(0, 0, 0, 0, 0);
        Check.state("47 refused", () -> x.fold(1, 0));
        Check.argument("47 out of range", () -> x.fold(1, 2));
        Check.index("47 no such bend", () -> x.fold(3, 0));
        Check.state("50 a step was made", () -> x.setLeg(0, 5));
        Check.state("51 a step was made", () -> x.setDirection(0, true));
        Check.argument("52 out of range", () -> x.setTool(4, 0, 1));
        Check.argument("53 out of range", () -> x.setSheet(0, 0, 0));
        Check.argument("54 out of range", () -> x.setCost(0, 0, 100));
        Check.same("55 the fold is the latest edit", x.undo(), 1);
        Check.same("55 and it is undone", x.steps(), 0);
        x.costIfTurned(0);
        Check.same("55 nor is a trial one", x.undo(), 0);
        Check.same("55 undo is none, either", x.undo(), SheetFolder.NONE);
    }

    private static void aLegalTextForgetsAllEdits() {
        for (int edits : new int[] {0, 1, 10, 13}) {
            SheetFolder x = Check.folder("leg 9000;");
            for (int edit = 1; edit <= edits; edit++) {
                x.setLeg(0, edit);
            }
            Check.same("3 an empty text", x.load(0), 0);
            Check.same("3 forgets " + edits, x.undo(), SheetFolder.NONE);
            Check.same("3 no leg comes back", x.legs(), 0);
            x.unfold();
            x.unfold();
            Check.same("55 two new ones", x.undo(), 1);
            Check.same("55 two new ones", x.undo(), 0);
            Check.same("55 and none before them", x.undo(), SheetFolder.NONE);
        }
    }

    private static void anIllegalTextForgetsNone() {
        for (int edits : new int[] {0, 1, 10, 13}) {
            SheetFolder x = Check.folder("leg 9000;");
            for (int edit = 1; edit <= edits; edit++) {
                x.setLeg(0, edit);
            }
            Check.same("3 an illegal text", Check.load(x, "leg 5;up 5;;"), SheetFolder.BAD_TEXT);
            Check.argument("3 a length out of range", () -> x.load(1));
            int kept = Math.min(10, edits);
            Check.same("3 forgets none of " + edits, x.undo(), kept - 1);
            Check.same("3 the leg", x.leg(0), edits <= 1 ? 9000 : edits - 1);
        }
    }

    // ---- the steps

    private static void foldRefused(String text, int reason, int bend, int side, int... made) {
        Supplier<SheetFolder> make = () -> {
            SheetFolder x = Check.folder(text);
            for (int code : made) {
                x.fold(code >> 1, code & 1);
            }
            return x;
        };
        Check.same("28 reason " + reason, make.get().reason(bend, side), reason);
        Check.refused("47 reason " + reason, IllegalStateException.class, make, x -> x.fold(bend, side));
    }

    private static void foldIsRefusedForEachReason() {
        foldRefused("leg 9;up 9;", 1, 0, 0, 0);
        foldRefused("leg 9;up 9;", 1, 0, 1, 0);
        foldRefused("leg 9;up 9;flange 10;", 2, 0, 0);
        foldRefused("leg 9;up 9;gauge 0 8;", 3, 0, 0);
        foldRefused("leg 9;up 9;gauge 10 99;", 3, 0, 1);
        foldRefused("leg 9;up 9;up 9;beam 10 1;", 4, 1, 0, 0);
        foldRefused("leg 9;up 9;up 9;beam 1 10;", 5, 1, 1, 0);
        foldRefused("leg 9;up 9;up 9;up 9;" + Check.NO_TOOLS, 6, 2, 0, 0, 2);
        foldRefused("leg 9;up 9;up 9;up 9;" + Check.NO_TOOLS, 6, 2, 1, 0, 2);
        SheetFolder x = Check.folder("leg 9;up 9;up 9;up 8;" + Check.NO_TOOLS);
        Check.same("47 not refused", x.fold(0, 0) + x.fold(1, 0), 0);
        Check.same("47 not refused", x.fold(2, 0), 0);
    }

    private static void foldMakesTheFirstAndTheLastStep() {
        SheetFolder x = Check.folder(Check.NINE_LEGS + "cost 1 2 4;");
        int[] codes = {15, 0, 3, 12, 5, 10, 6, 9};
        // 1 if the direction is another one, 2 for the side, and 4, since the gauge is another one each time.
        int[] due = {0, 7, 7, 7, 6, 7, 4, 7};
        for (int i = 0; i < 8; i++) {
            Check.same("47 step " + i, x.fold(codes[i] >> 1, codes[i] & 1), due[i]);
            Check.same("25 steps", x.steps(), i + 1);
        }
        Check.same("24 all are made", x.made(), 255);
        for (int code = 0; code < 16; code++) {
            int c = code;
            Check.state("47 no ninth step", () -> x.fold(c >> 1, c & 1));
        }
    }

    private static void foldNextUpToTheLastStep() {
        SheetFolder x = Check.folder(Check.NINE_LEGS + "cost 0 9 0;");
        x.fold(3, 1);
        int[] due = {1, 3, 5, 9, 11, 13, 15};
        for (int i = 0; i < 7; i++) {
            Check.same("48 step " + i, x.foldNext(), due[i]);
            Check.same("26 its bend", x.step(i + 1, 0), due[i] >> 1);
            Check.same("26 its side", x.step(i + 1, 1), due[i] & 1);
            Check.same("26 its cost", x.step(i + 1, 3), 0);
        }
        Check.refused("48 all bends are made", IllegalStateException.class, () -> {
            SheetFolder y = Check.folder("leg 9;up 9;");
            y.foldNext();
            return y;
        }, SheetFolder::foldNext);
        Check.refused("48 no bends", IllegalStateException.class, () -> Check.folder("leg 9;"), SheetFolder::foldNext);
        Check.refused("48 no legs", IllegalStateException.class, SheetFolder::new, SheetFolder::foldNext);
        Check.refused("48 no order", IllegalStateException.class,
                () -> Check.folder("leg 9;up 9;up 9;up 9;" + Check.NO_TOOLS), SheetFolder::foldNext);
    }

    private static void unfoldFromNoneToAll() {
        for (int steps = 0; steps <= 8; steps++) {
            SheetFolder x = Check.folder(Check.NINE_LEGS);
            String before = Check.picture(x);
            for (int i = 0; i < steps; i++) {
                x.fold(i, i & 1);
            }
            Check.same("49 steps before", x.unfold(), steps);
            Check.sameText("49 flat again", Check.picture(x), before);
            Check.same("49 none before", x.unfold(), 0);
            Check.same("55 the second unfold", x.undo(), steps + 1);
            Check.same("55 the first unfold", x.undo(), steps);
            Check.same("55 all steps are made again", x.steps(), steps);
        }
        Check.same("49 no legs", new SheetFolder().unfold(), 0);
        Check.same("49 one leg", Check.folder("leg 5;").unfold(), 0);
    }

    // ---- the other edits

    private static void setLegFromOneToTheGreatest() {
        SheetFolder x = Check.folder("leg 50;up 50;up 50;up 50;up 50;up 50;up 50;up 50;up 50;");
        for (int leg = 0; leg < 9; leg++) {
            int l = leg;
            Check.same("50 leg " + leg, x.setLeg(leg, 1), 50);
            Check.same("50 leg " + leg, x.setLeg(leg, 9999), 1);
            Check.same("50 leg " + leg, x.setLeg(leg, 9998 - leg), 9999);
            Check.argument("50 one too short", () -> x.setLeg(l, 0));
            Check.argument("50 one too long", () -> x.setLeg(l, 10000));
            Check.same("8 leg " + leg, x.leg(leg), 9998 - leg);
        }
        Check.index("50 leg 9", () -> x.setLeg(9, 5));
        Check.index("50 leg -1", () -> x.setLeg(-1, 5));
        Check.index("50 no legs", () -> new SheetFolder().setLeg(0, 5));
        Check.sameDouble("11 all others stay", x.flatLength(), 9 * 9998 - 36 - 8 * x.deduction());
    }

    private static void setLegOnAFlatSheetAlone() {
        SheetFolder x = folded();
        Check.state("50 a step was made", () -> x.setLeg(0, 5));
        Check.state("50 also the same length", () -> x.setLeg(0, 30));
        Check.argument("50 the length first", () -> x.setLeg(0, 0));
        Check.argument("50 the length first", () -> x.setLeg(0, 10000));
        Check.index("50 the leg first", () -> x.setLeg(4, 5));
        Check.index("50 the leg first", () -> x.setLeg(4, 0));
        x.undo();
        Check.same("50 the step is undone", x.setLeg(0, 5), 30);
        x.fold(0, 0);
        x.unfold();
        Check.same("50 unfolded", x.setLeg(0, 6), 5);
        x.undo();
        x.undo();
        Check.state("50 unfold is undone", () -> x.setLeg(0, 6));
    }

    private static void setDirectionOfTheFirstAndTheLastBend() {
        SheetFolder x = Check.folder(Check.NINE_LEGS);
        for (int bend = 0; bend < 8; bend++) {
            boolean wasUp = bend % 2 == 0;
            Check.same("51 bend " + bend, x.setDirection(bend, !wasUp), wasUp);
            Check.same("51 the same again", x.setDirection(bend, !wasUp), !wasUp);
            for (int other = 0; other < 8; other++) {
                Check.same("9 bend " + other, x.isUp(other), (other % 2 == 0) == other > bend);
            }
        }
        Check.index("51 bend 8", () -> x.setDirection(8, true));
        Check.index("51 bend -1", () -> x.setDirection(-1, true));
        Check.index("51 no legs", () -> new SheetFolder().setDirection(0, true));
        Check.index("51 one leg", () -> Check.folder("leg 5;").setDirection(0, true));
    }

    private static void setDirectionOnAFlatSheetAlone() {
        SheetFolder x = folded();
        Check.state("51 a step was made", () -> x.setDirection(0, false));
        Check.state("51 also the same direction", () -> x.setDirection(0, true));
        Check.index("51 the bend first", () -> x.setDirection(3, true));
        x.unfold();
        Check.same("51 unfolded", x.setDirection(0, false), true);
        x.undo();
        x.undo();
        Check.state("51 unfold is undone", () -> x.setDirection(0, false));
    }

    private static void setToolAtTheEndsOfItsRanges() {
        int[] defaults = {300, 300, 200, 0, 0};
        int[] numbers = {0, 1, 9998, 9999, -1, 10000};
        for (int tool = 0; tool < 5; tool++) {
            for (int first : numbers) {
                for (int second : numbers) {
                    SheetFolder x = new SheetFolder();
                    int t = tool;
                    boolean isFirst = first >= 0 && first <= 9999;
                    boolean isSecond = tool == 4 ? second == 0 : second >= (tool == 3 ? first : 0) && second <= 9999;
                    if (isFirst && isSecond) {
                        Check.same("52 the previous first number", x.setTool(tool, first, second), defaults[tool]);
                        Check.same("17 the first number", x.tool(tool, 0), first);
                        if (tool < 4) {
                            Check.same("17 the second number", x.tool(tool, 1), second);
                        }
                        Check.same("52 the previous first number", x.setTool(tool, 5, tool == 4 ? 0 : 5), first);
                    } else {
                        Check.refused("52 setTool " + tool + " " + first + " " + second, IllegalArgumentException.class,
                                SheetFolder::new, y -> y.setTool(t, first, second));
                    }
                }
            }
        }
        SheetFolder x = flat();
        Check.argument("52 MOST one below LEAST", () -> x.setTool(3, 7, 6));
        Check.same("52 MOST as LEAST", x.setTool(3, 7, 7), 1);
        for (int other : new int[] {0, 1, 2, 4}) {
            Check.same("52 the others stay", x.tool(other, 0), 0);
        }
        Check.argument("52 tool -1", () -> x.setTool(-1, 5, 5));
        Check.argument("52 tool 5", () -> x.setTool(5, 5, 0));
    }

    private static void setSheetAtTheEndsOfItsRanges() {
        SheetFolder x = new SheetFolder();
        int before = 10;
        for (int[] s : new int[][] {{1, 0, 0}, {60, 200, 100}, {1, 200, 0}, {60, 0, 100}, {59, 199, 99}, {2, 1, 1}}) {
            Check.same("53 the previous thickness", x.setSheet(s[0], s[1], s[2]), before);
            Check.sameDouble("13 ratio", x.ratio(), 10.0 * s[1] / s[0]);
            Check.sameDouble("10 deduction", x.deduction(), 2.0 * (s[1] + s[0]) - 1.5708 * (s[1] + s[2] / 100.0 * s[0]));
            before = s[0];
        }
        SheetFolder folded = folded();
        Check.same("53 also if a step was made", folded.setSheet(60, 200, 100), 4);
        Check.same("53 the steps stay", folded.steps(), 1);
        Check.sameDouble("14 another spring-back", folded.springBack(), 27.0);
    }

    private static void setCostAtTheEndsOfItsRanges() {
        SheetFolder x = Check.folder("leg 20;up 30;down 40;" + Check.NO_TOOLS);
        x.fold(0, 0);
        int before = 1;
        for (int[] c : new int[][] {{0, 0, 0}, {99, 0, 0}, {0, 99, 0}, {0, 0, 99}, {99, 99, 99}, {98, 1, 7}}) {
            Check.same("54 the previous flip", x.setCost(c[0], c[1], c[2]), before);
            Check.same("36 all three", x.costOf(1, 1), c[0] + c[1] + c[2]);
            Check.same("36 flip and move", x.costOf(1, 0), c[0] + c[2]);
            Check.same("36 turn and move", x.costOf(0, 1), c[1] + c[2]);
            before = c[0];
        }
    }

    private static void costsOfStepsThatWereMadeStay() {
        SheetFolder x = Check.folder("leg 20;up 30;down 40;up 50;" + Check.NO_TOOLS + "cost 1 10 50;");
        x.fold(0, 0);
        Check.same("47 flip, turn and move", x.fold(1, 1), 61);
        x.setCost(2, 20, 99);
        Check.same("27 the sum stays", x.costSoFar(), 61);
        Check.same("26 the step's cost stays", x.step(1, 3), 61);
        Check.same("47 the next one has the new costs", x.fold(2, 0), 121);
        Check.same("27 old and new", x.costSoFar(), 182);
        x.undo();
        x.undo();
        Check.same("55 the costs before", x.costOf(2, 0), 61);
        Check.same("27 the sum", x.costSoFar(), 61);
    }

    // ---- the output

    private static void nothingWasWrittenYet() {
        for (String text : new String[] {"", "leg 5;", Check.NINE_LEGS}) {
            SheetFolder x = Check.folder(text);
            for (int k : new int[] {-1, 0, 1, Integer.MIN_VALUE, Integer.MAX_VALUE}) {
                Check.index("57 nothing was written yet", () -> x.written(k));
            }
        }
    }

    private static void output(SheetFolder x, String due) {
        Check.same("56 length of " + due, x.write(), due.length());
        for (int k = 0; k < due.length(); k++) {
            Check.same("57 character " + k + " of " + due, x.written(k), due.charAt(k));
        }
        for (int k : new int[] {-1, due.length(), due.length() + 1, Integer.MIN_VALUE, Integer.MAX_VALUE}) {
            Check.index("57 character " + k + " of " + due, () -> x.written(k));
        }
    }

    private static void theOutputFromNoCharacterToTheLongest() {
        output(new SheetFolder(), "");
        output(Check.folder("leg 1;"), "1");
        output(Check.folder("leg 9999;"), "9999");
        output(Check.folder("leg 10;up 100;down 1000;"), "10^100v1000");
        SheetFolder x = Check.folder("leg 9;up 9;" + Check.NO_TOOLS);
        output(x, "9^9");
        x.fold(0, 0);
        output(x, "9^*9 cost 0");
        SheetFolder longest = Check.folder("leg 1001;up 1002;down 1004;up 1008;down 1016;up 1032;down 1064;up 1128;down 1256;"
                + Check.NO_TOOLS + "cost 99 99 99;");
        output(longest, "1001^1002v1004^1008v1016^1032v1064^1128v1256");
        longest.fold(7, 1);
        output(longest, "1001^1002v1004^1008v1016^1032v1064^1128v*1256 cost 0");
        SheetFolder nine = Check.folder(Check.NINE_LEGS + "cost 99 99 99;");
        for (int bend = 0; bend < 8; bend++) {
            nine.fold(bend, bend & 1);
        }
        output(nine, "1^*2v*4^*8v*16^*32v*64^*128v*256 cost 2079");
        nine.undo();
        output(nine, "1^*2v*4^*8v*16^*32v*64^*128v256 cost 1782");
        nine.unfold();
        output(nine, "1^2v4^8v16^32v64^128v256");
    }

    private static void theOutputStaysUntilTheNextWrite() {
        SheetFolder x = folded();
        int length = x.write();
        x.unfold();
        x.setLeg(0, 9999);
        Check.load(x, "leg 1;");
        Check.load(x, "oops");
        Check.same("57 the first character", x.written(0), '3');
        Check.same("57 the last character", x.written(length - 1), '0');
        Check.index("57 behind the last", () -> x.written(length));
        output(x, "1");
        x.load(0);
        Check.same("57 still", x.written(0), '1');
        output(x, "");
    }
}
