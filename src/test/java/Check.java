import java.util.function.Consumer;
import java.util.function.Supplier;

/** What the tests share: comparing answers, and feeding a text to a folder. */
final class Check {
    static final String NO_TOOLS = "beam 0 0;table 0 0;wing 0 0;";
    /** Each leg is longer than all before it together, so the sheet never hits itself. */
    static final String NINE_LEGS = "leg 1;up 2;down 4;up 8;down 16;up 32;down 64;up 128;down 256;" + NO_TOOLS;

    private static int wrong = 0;

    private Check() {
    }

    static void same(String call, long got, long want) {
        if (got != want) {
            tell(call, String.valueOf(got), String.valueOf(want));
        }
    }

    static void same(String call, boolean got, boolean want) {
        same(call, got ? 1L : 0L, want ? 1L : 0L);
    }

    static void sameDouble(String call, double got, double want) {
        if (Double.compare(got, want) != 0) {
            tell(call, String.valueOf(got), String.valueOf(want));
        }
    }

    static void sameText(String call, String got, String want) {
        if (!got.equals(want)) {
            tell(call, got, want);
        }
    }

    static void index(String call, Runnable body) {
        thrown(call, IndexOutOfBoundsException.class, body);
    }

    static void argument(String call, Runnable body) {
        thrown(call, IllegalArgumentException.class, body);
    }

    static void state(String call, Runnable body) {
        thrown(call, IllegalStateException.class, body);
    }

    private static void thrown(String call, Class<?> kind, Runnable body) {
        String got = "nothing thrown";
        try {
            body.run();
        } catch (RuntimeException e) {
            got = e.getClass().getSimpleName();
        }
        sameText(call, got, kind.getSimpleName());
    }

    /** The call throws just this, and the object goes on like a twin that was not called. */
    static void refused(String call, Class<? extends RuntimeException> kind, Supplier<SheetFolder> make,
            Consumer<SheetFolder> body) {
        SheetFolder x = make.get();
        thrown(call, kind, () -> body.accept(x));
        sameText(call + " changes nothing", story(x), story(make.get()));
    }

    private static void tell(String call, String got, String want) {
        wrong++;
        System.out.println(call + " answered " + got + ", due is " + want);
    }

    /** Ends the run, with exit code 1 if an answer was wrong. */
    static void end() {
        if (wrong != 0) {
            System.out.println(wrong + " answers are wrong");
            System.exit(1);
        }
    }

    static SheetFolder folder(String text) {
        SheetFolder x = new SheetFolder();
        int answer = load(x, text);
        if (answer == SheetFolder.BAD_TEXT) {
            tell("load of \"" + text + "\"", "BAD_TEXT", "a legal text");
        }
        return x;
    }

    static int load(SheetFolder x, String text) {
        feed(x, text);
        return x.load(text.length());
    }

    /** The text has this error, and an object that reads it keeps what it had. */
    static void error(String call, String text, int kind, int position) {
        SheetFolder x = new SheetFolder();
        same(call + " load of \"" + text + "\"", load(x, text), SheetFolder.BAD_TEXT);
        same(call + " errorKind of \"" + text + "\"", x.errorKind(), kind);
        same(call + " errorPosition of \"" + text + "\"", x.errorPosition(), position);
        same(call + " legs behind \"" + text + "\"", x.legs(), 0);
    }

    static void legal(String call, String text, int bends) {
        SheetFolder x = new SheetFolder();
        same(call + " load of \"" + text + "\"", load(x, text), bends);
        same(call + " errorKind of \"" + text + "\"", x.errorKind(), 0);
        same(call + " errorPosition of \"" + text + "\"", x.errorPosition(), SheetFolder.NONE);
        same(call + " bends of \"" + text + "\"", x.bends(), bends);
    }

    static void feed(SheetFolder x, String text) {
        for (int from = 0; from < text.length(); from += 20) {
            x.feed(four(text, from), four(text, from + 4), four(text, from + 8), four(text, from + 12),
                    four(text, from + 16));
        }
    }

    private static int four(String text, int from) {
        int value = 0;
        for (int i = from; i < from + 4; i++) {
            value = value << 8 | (i < text.length() ? text.charAt(i) & 255 : ' ');
        }
        return value;
    }

    static String output(SheetFolder x) {
        int length = x.write();
        StringBuilder text = new StringBuilder();
        for (int k = 0; k < length; k++) {
            text.append(x.written(k));
        }
        return text.toString();
    }

    /** All answers that tell the state, in one text. */
    static String picture(SheetFolder x) {
        StringBuilder all = new StringBuilder();
        all.append(x.bends()).append(' ').append(x.legs()).append(' ');
        for (int leg = 0; leg < x.legs(); leg++) {
            all.append(x.leg(leg)).append(',');
        }
        for (int bend = 0; bend < x.bends(); bend++) {
            all.append(x.isUp(bend) ? '^' : 'v');
        }
        all.append(' ').append(x.deduction()).append(' ').append(x.ratio()).append(' ').append(x.springBack());
        for (int tool = 0; tool < 5; tool++) {
            all.append(' ').append(x.tool(tool, 0));
            if (tool < 4) {
                all.append('/').append(x.tool(tool, 1));
            }
        }
        all.append(" made ").append(x.made());
        for (int step = 0; step < x.steps(); step++) {
            for (int what = 0; what < 4; what++) {
                all.append(what == 0 ? ' ' : ':').append(x.step(step, what));
            }
        }
        for (int bend = 0; bend < x.bends(); bend++) {
            all.append(" costs ").append(x.costOf(bend, 0)).append('/').append(x.costOf(bend, 1));
        }
        all.append(" least ").append(x.leastCost()).append(" greatest ").append(x.greatestCost());
        return all.toString();
    }

    /**
     * All that can be found out of an object, in one text; it is used up by that. An object that tells its story has
     * some 150 of its 512 calls left for what was before.
     */
    static String story(SheetFolder x) {
        StringBuilder all = new StringBuilder(picture(x));
        all.append(" error ").append(x.errorKind()).append(" at ").append(x.errorPosition());
        for (double ratio : new double[] {0.0, 6.5, 99.0, 9999.0}) {
            all.append(' ').append(x.springBackFor(ratio));
        }
        all.append(" output \"");
        for (int k = 0; tellsCharacter(x, k, all); k++) {
            all.append(k % 10 == 9 ? "|" : "");
        }
        int fed = x.feed(0x20202020, 0x20202020, 0x20202020, 0x20202020, 0x20202020);
        all.append("\" fed ").append(fed);
        int left = x.undo();
        while (left != SheetFolder.NONE) {
            all.append(" undone, left ").append(left).append(": ").append(glance(x));
            left = x.undo();
        }
        all.append(" the buffer: ").append(x.load(fed == SheetFolder.FULL ? 600 : fed));
        all.append(' ').append(x.errorKind()).append(' ').append(x.errorPosition()).append(' ').append(x.flatLength());
        return all.append(" emptied ").append(x.feed(0, 0, 0, 0, 0)).toString();
    }

    private static boolean tellsCharacter(SheetFolder x, int k, StringBuilder all) {
        try {
            all.append(x.written(k));
            return true;
        } catch (IndexOutOfBoundsException e) {
            return false;
        }
    }

    /** What tells most of the state in few calls. */
    private static String glance(SheetFolder x) {
        StringBuilder all = new StringBuilder();
        all.append(x.flatLength()).append(' ').append(x.finishedWidth()).append('x').append(x.finishedHeight());
        all.append(' ').append(x.deduction()).append(' ').append(x.ratio()).append(" made ").append(x.made());
        all.append(" cost ").append(x.costSoFar()).append('+').append(x.leastCost()).append('/').append(x.greatestCost());
        for (int tool = 0; tool < 5; tool++) {
            all.append(' ').append(x.tool(tool, 0));
        }
        return all.append(" possible ").append(x.possible()).toString();
    }
}
