/** What the tests share: comparing answers, and feeding a text to a folder. */
final class Check {
    private static int wrong = 0;

    private Check() {
    }

    static void same(String call, long got, long want) {
        if (got != want) {
            tell(call, String.valueOf(got), String.valueOf(want));
        }
    }

    static void same(String call, boolean got, boolean want) {
        same(call, got ? 1L : 0L, want ? 1L : 0L);
    }

    static void sameDouble(String call, double got, double want) {
        if (Double.compare(got, want) != 0) {
            tell(call, String.valueOf(got), String.valueOf(want));
        }
    }

    static void sameText(String call, String got, String want) {
        if (!got.equals(want)) {
            tell(call, got, want);
        }
    }

    static void index(String call, Runnable body) {
        thrown(call, IndexOutOfBoundsException.class, body);
    }

    static void argument(String call, Runnable body) {
        thrown(call, IllegalArgumentException.class, body);
    }

    static void state(String call, Runnable body) {
        thrown(call, IllegalStateException.class, body);
    }

    private static void thrown(String call, Class<?> kind, Runnable body) {
        String got = "nothing thrown";
        try {
            body.run();
        } catch (RuntimeException e) {
            got = e.getClass().getSimpleName();
        }
        sameText(call, got, kind.getSimpleName());
    }

    private static void tell(String call, String got, String want) {
        wrong++;
        System.out.println(call + " answered " + got + ", due is " + want);
    }

    /** Ends the run, with exit code 1 if an answer was wrong. */
    static void end() {
        if (wrong != 0) {
            System.out.println(wrong + " answers are wrong");
            System.exit(1);
        }
    }

    static SheetFolder folder(String text) {
        SheetFolder x = new SheetFolder();
        int answer = load(x, text);
        if (answer == SheetFolder.BAD_TEXT) {
            tell("load of \"" + text + "\"", "BAD_TEXT", "a legal text");
        }
        return x;
    }

    static int load(SheetFolder x, String text) {
        feed(x, text);
        return x.load(text.length());
    }

    static void feed(SheetFolder x, String text) {
        for (int from = 0; from < text.length(); from += 20) {
            x.feed(four(text, from), four(text, from + 4), four(text, from + 8), four(text, from + 12),
                    four(text, from + 16));
        }
    }

    private static int four(String text, int from) {
        int value = 0;
        for (int i = from; i < from + 4; i++) {
            value = value << 8 | (i < text.length() ? text.charAt(i) & 255 : ' ');
        }
        return value;
    }

    static String output(SheetFolder x) {
        int length = x.write();
        StringBuilder text = new StringBuilder();
        for (int k = 0; k < length; k++) {
            text.append(x.written(k));
        }
        return text.toString();
    }

    /** All answers that tell the state, in one text. */
    static String picture(SheetFolder x) {
        StringBuilder all = new StringBuilder();
        all.append(x.bends()).append(' ').append(x.legs()).append(' ');
        for (int leg = 0; leg < x.legs(); leg++) {
            all.append(x.leg(leg)).append(',');
        }
        for (int bend = 0; bend < x.bends(); bend++) {
            all.append(x.isUp(bend) ? '^' : 'v');
        }
        all.append(' ').append(x.deduction()).append(' ').append(x.ratio()).append(' ').append(x.springBack());
        for (int tool = 0; tool < 5; tool++) {
            all.append(' ').append(x.tool(tool, 0));
            if (tool < 4) {
                all.append('/').append(x.tool(tool, 1));
            }
        }
        all.append(" made ").append(x.made());
        for (int step = 0; step < x.steps(); step++) {
            for (int what = 0; what < 4; what++) {
                all.append(what == 0 ? ' ' : ':').append(x.step(step, what));
            }
        }
        for (int bend = 0; bend < x.bends(); bend++) {
            all.append(" costs ").append(x.costOf(bend, 0)).append('/').append(x.costOf(bend, 1));
        }
        all.append(" least ").append(x.leastCost()).append(" greatest ").append(x.greatestCost());
        return all.toString();
    }
}
