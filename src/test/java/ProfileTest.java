/** Promises 6 to 23: profile, lengths, spring-back, tools, finished profile. */
public final class ProfileTest {
    public static void main(String[] args) {
        profile();
        lengths();
        springBack();
        tools();
        finished();
        crossed();
        symmetric();
        longest();
        Check.end();
    }

    private static void profile() {
        SheetFolder x = Check.folder("leg 10;up 20;down 30;");
        Check.same("6 bends", x.bends(), 2);
        Check.same("7 legs", x.legs(), 3);
        Check.same("6 one leg", Check.folder("leg 10;").bends(), 0);
        Check.same("7 one leg", Check.folder("leg 10;").legs(), 1);
        for (int leg = 0; leg < 3; leg++) {
            Check.same("8 leg", x.leg(leg), 10 * leg + 10);
        }
        Check.index("8 leg -1", () -> x.leg(-1));
        Check.index("8 leg 3", () -> x.leg(3));
        Check.index("8 leg MAX", () -> x.leg(Integer.MAX_VALUE));
        Check.same("9 up", x.isUp(0), true);
        Check.same("9 down", x.isUp(1), false);
        Check.index("9 bend -1", () -> x.isUp(-1));
        Check.index("9 bend 2", () -> x.isUp(2));
        Check.index("9 no legs", () -> new SheetFolder().isUp(0));
    }

    private static void lengths() {
        SheetFolder x = Check.folder("sheet 7 13 33;leg 101;up 57;down 33;up 9999;");
        double deduction = 2.0 * (13 + 7) - 1.5708 * (13 + 33 / 100.0 * 7);
        Check.sameDouble("10 deduction", x.deduction(), deduction);
        Check.sameDouble("11 flatLength", x.flatLength(), 10190 - 3 * deduction);
        Check.sameDouble("12 line 0", x.linePlace(0), 101 - 0.5 * deduction);
        Check.sameDouble("12 line 1", x.linePlace(1), 158 - 1.5 * deduction);
        Check.sameDouble("12 line 2", x.linePlace(2), 191 - 2.5 * deduction);
        Check.index("12 line 3", () -> x.linePlace(3));
        Check.index("12 line -1", () -> x.linePlace(-1));
        Check.sameDouble("11 no legs", new SheetFolder().flatLength(), 0.0);
        Check.sameDouble("11 one leg", Check.folder("leg 17;").flatLength(), 17.0);
        Check.sameDouble("10 radius 200", Check.folder("sheet 1 200 0;").deduction(), 402.0 - 1.5708 * 200);
    }

    private static void springBack() {
        SheetFolder x = Check.folder("sheet 3 4 0;back 10 20;back 20 50;back 23 5;");
        Check.sameDouble("13 ratio", x.ratio(), 40.0 / 3);
        Check.sameDouble("13 the thinnest sheet", Check.folder("sheet 1 200 0;").ratio(), 2000.0);
        Check.sameDouble("13 the thickest sheet", Check.folder("sheet 60 7 0;").ratio(), 70.0 / 60);
        Check.sameDouble("14 springBack", x.springBack(), 20 + 30 * (40.0 / 3 - 10) / 10);
        Check.sameDouble("15 below", x.springBackFor(0.0), 20.0);
        Check.sameDouble("15 -0.0", x.springBackFor(-0.0), 20.0);
        Check.sameDouble("15 at the first", x.springBackFor(10.0), 20.0);
        Check.sameDouble("15 between", x.springBackFor(15.0), 35.0);
        Check.sameDouble("15 at the second", x.springBackFor(20.0), 50.0);
        Check.sameDouble("15 falling", x.springBackFor(21.0), 50 + -45 * (21.0 - 20) / 3);
        Check.sameDouble("15 at the last", x.springBackFor(23.0), 5.0);
        Check.sameDouble("15 above", x.springBackFor(9999.0), 5.0);
        Check.argument("15 -1", () -> x.springBackFor(-1.0));
        Check.argument("15 below 0", () -> x.springBackFor(-Double.MIN_VALUE));
        Check.argument("15 10000", () -> x.springBackFor(10000.0));
        Check.argument("15 above 9999", () -> x.springBackFor(Math.nextUp(9999.0)));
        Check.argument("15 no number", () -> x.springBackFor(Double.NaN));
        Check.argument("15 infinity", () -> x.springBackFor(Double.POSITIVE_INFINITY));
        Check.argument("15 minus infinity", () -> x.springBackFor(Double.NEGATIVE_INFINITY));
        Check.sameDouble("15 without table", new SheetFolder().springBackFor(5.0), 0.0);
        Check.sameDouble("14 without table", new SheetFolder().springBack(), 0.0);
        SheetFolder one = Check.folder("back 10 7;");
        Check.sameDouble("15 one, below", one.springBackFor(1.0), 7.0);
        Check.sameDouble("15 one, above", one.springBackFor(11.0), 7.0);
        Check.same("16 swingAngle", x.swingAngle(), 930);
        Check.same("16 without table", new SheetFolder().swingAngle(), 900);
        SheetFolder y = Check.folder("sheet 10 15 0;back 10 20;back 20 21;");
        Check.sameDouble("14 half", y.springBack(), 20.5);
        Check.same("16 rounded down", y.swingAngle(), 920);
        SheetFolder z = Check.folder("sheet 3 4 0;back 10 15;back 15 0;");
        Check.same("16 a hair below 5", z.springBack() < 5.0 ? 904 : 905, z.swingAngle());
    }

    private static void tools() {
        SheetFolder x = Check.folder("beam 1 2;table 3 4;wing 5 6;gauge 7 8;flange 9;");
        for (int tool = 0; tool < 4; tool++) {
            Check.same("17 first of " + tool, x.tool(tool, 0), 2 * tool + 1);
            Check.same("17 second of " + tool, x.tool(tool, 1), 2 * tool + 2);
        }
        Check.same("17 flange", x.tool(4, 0), 9);
        Check.argument("17 flange, second", () -> x.tool(4, 1));
        Check.argument("17 tool -1", () -> x.tool(-1, 0));
        Check.argument("17 tool 5", () -> x.tool(5, 0));
        Check.argument("17 what -1", () -> x.tool(0, -1));
        Check.argument("17 what 2", () -> x.tool(0, 2));
        Check.argument("17 extremes", () -> x.tool(Integer.MIN_VALUE, Integer.MAX_VALUE));
    }

    private static void finished() {
        SheetFolder x = Check.folder("leg 100;up 30;down 20;down 50;down 40;");
        int[][] due = {{100, 0}, {100, 30}, {120, 30}, {120, -20}, {80, -20}};
        for (int leg = 0; leg < due.length; leg++) {
            Check.same("21 x of " + leg, x.finishedCorner(leg, 0), due[leg][0]);
            Check.same("21 y of " + leg, x.finishedCorner(leg, 1), due[leg][1]);
        }
        Check.same("18 width", x.finishedWidth(), 120);
        Check.same("19 height", x.finishedHeight(), 50);
        Check.index("21 leg 5", () -> x.finishedCorner(5, 0));
        Check.index("21 leg -1 first", () -> x.finishedCorner(-1, 9));
        Check.argument("21 what 2", () -> x.finishedCorner(0, 2));
        Check.argument("21 what -1", () -> x.finishedCorner(0, -1));
        Check.same("18 no legs", new SheetFolder().finishedWidth(), 0);
        Check.same("19 no legs", new SheetFolder().finishedHeight(), 0);
        Check.same("18 one leg", Check.folder("leg 9999;").finishedWidth(), 9999);
        Check.same("19 one leg", Check.folder("leg 9999;").finishedHeight(), 0);
        SheetFolder back = Check.folder("leg 10;up 5;up 30;");
        Check.same("18 behind the begin", back.finishedWidth(), 30);
        Check.same("21 behind the begin", back.finishedCorner(2, 0), -20);
    }

    private static void crossed() {
        Check.same("20 no legs", new SheetFolder().isFinishedCrossed(), false);
        Check.same("20 two legs", Check.folder("leg 5;up 5;").isFinishedCrossed(), false);
        Check.same("20 open", Check.folder("leg 10;up 10;up 9;up 9;").isFinishedCrossed(), false);
        Check.same("20 touching", Check.folder("leg 10;up 10;up 9;up 10;").isFinishedCrossed(), true);
        Check.same("20 crossing", Check.folder("leg 10;up 10;up 9;up 20;").isFinishedCrossed(), true);
        Check.same("20 passing", Check.folder("leg 10;up 10;up 11;up 20;").isFinishedCrossed(), false);
        Check.same("20 ends meet", Check.folder("leg 10;up 10;up 10;up 10;").isFinishedCrossed(), true);
        Check.same("20 on a line", Check.folder("leg 5;up 5;up 9;up 3;up 2;up 8;").isFinishedCrossed(), true);
        Check.same("20 steps", Check.folder("leg 1;up 1;down 1;up 1;down 1;up 1;").isFinishedCrossed(), false);
    }

    private static void symmetric() {
        Check.same("22 no legs", new SheetFolder().isSymmetric(), true);
        Check.same("22 one leg", Check.folder("leg 5;").isSymmetric(), true);
        Check.same("22 one bend", Check.folder("leg 5;up 5;").isSymmetric(), true);
        Check.same("22 other legs", Check.folder("leg 5;up 6;").isSymmetric(), false);
        Check.same("22 two bends", Check.folder("leg 5;up 3;up 5;").isSymmetric(), true);
        Check.same("22 a Z", Check.folder("leg 5;up 3;down 5;").isSymmetric(), false);
        Check.same("22 three bends", Check.folder("leg 5;up 3;down 3;up 5;").isSymmetric(), true);
        Check.same("22 inner legs", Check.folder("leg 5;up 3;down 4;up 5;").isSymmetric(), false);
        Check.same("22 inner bends", Check.folder("leg 5;up 3;up 3;down 3;up 5;").isSymmetric(), false);
    }

    private static void longest() {
        Check.same("23 no legs", new SheetFolder().longestLeg(), SheetFolder.NONE);
        Check.same("23 one leg", Check.folder("leg 5;").longestLeg(), 0);
        Check.same("23 the last", Check.folder("leg 5;up 4;up 6;").longestLeg(), 2);
        Check.same("23 the smallest number", Check.folder("leg 5;up 7;up 7;").longestLeg(), 1);
    }
}
