/** Promises 56 and 57: write, written. */
public final class OutputTest {
    public static void main(String[] args) {
        SheetFolder x = Check.folder("leg 100;up 5;down 9999;beam 0 0;table 0 0;wing 0 0;cost 90 80 70;");
        Check.index("57 nothing was written yet", () -> x.written(0));
        Check.same("56 the number of characters", x.write(), 10);
        Check.sameText("56 flat", Check.output(x), "100^5v9999");
        x.fold(1, 0);
        Check.same("57 the output stays", x.written(3), '^');
        Check.index("57 behind the end", () -> x.written(10));
        Check.sameText("56 a step that cost nothing", Check.output(x), "100^5v*9999 cost 0");
        x.fold(0, 1);
        Check.sameText("56 all made", Check.output(x), "100^*5v*9999 cost " + x.costSoFar());
        Check.index("57 -1", () -> x.written(-1));
        Check.index("57 MAX", () -> x.written(Integer.MAX_VALUE));
        Check.index("57 MIN", () -> x.written(Integer.MIN_VALUE));
        x.unfold();
        Check.sameText("56 in place of what it had", Check.output(x), "100^5v9999");
        Check.index("57 the longer one is gone", () -> x.written(10));
        x.undo();
        Check.load(x, "leg 7;");
        Check.same("57 load leaves the output", x.written(9), '9');
        Check.sameText("56 one leg", Check.output(x), "7");
        x.load(0);
        Check.same("56 no legs", x.write(), 0);
        Check.index("57 nothing in it", () -> x.written(0));
        greatest();
        Check.end();
    }

    private static void greatest() {
        SheetFolder x = Check.folder("leg 1009;up 1008;down 1007;up 1006;down 1005;up 1004;down 1003;up 1002;down 1001;"
                + "beam 0 0;table 0 0;wing 0 0;cost 99 99 99;");
        for (int step = 0; step < 8; step++) {
            x.fold(step, step & 1);
        }
        Check.sameText("56 the longest", Check.output(x),
                "1009^*1008v*1007^*1006v*1005^*1004v*1003^*1002v*1001 cost " + x.costSoFar());
    }
}
