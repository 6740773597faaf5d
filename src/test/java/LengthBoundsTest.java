/** The sentences of LENGTHS AND SPRING-BACK, and of the promises 6 to 23, that name a boundary: a method for each. */
public final class LengthBoundsTest {
    private static final String NINE_LEGS = "leg 9999;up 9998;down 9997;up 9996;down 9995;up 9994;down 9993;up 9992;down 9991;";

    public static void main(String[] args) {
        legsAreOneMoreThanBendsOrNone();
        legsAndBendsThatDoNotExist();
        theDeductionAtTheEndsOfItsRanges();
        theDeductionIsReckonedFromLeftToRight();
        theFlatLengthOfFewAndManyLegs();
        theSumOfTheLegsIsExact();
        thePlacesOfTheFirstAndTheLastBend();
        theRatioAtTheEndsOfItsRanges();
        withoutBackStatementsItIsNone();
        oneBackStatementTellsForAll();
        atMostTheFirstRatio();
        atLeastTheLastRatio();
        betweenTwoNeighbours();
        theSpringBackIsReckonedFromLeftToRight();
        eightBackStatements();
        theSpringBackOfTheSheet();
        theRatioAskedFor();
        theSwingAngleIsRoundedDown();
        theNumbersOfTheTools();
        finishedWithoutBends();
        finishedAtItsGreatest();
        finishedOnEachSideOfTheBegin();
        finishedCornersOfTheFirstAndTheLastLeg();
        fewLegsAreNeverCrossed();
        aPointInCommonIsEnough();
        symmetricWithoutLegs();
        symmetricUpToTheLastLegAndBend();
        theSmallestNumberOfSeveralLongest();
        Check.end();
    }

    private static void legsAreOneMoreThanBendsOrNone() {
        String text = "";
        for (int legs = 0; legs <= 9; legs++) {
            SheetFolder x = Check.folder(text);
            Check.same("6 bends of " + legs + " legs", x.bends(), Math.max(0, legs - 1));
            Check.same("7 legs", x.legs(), legs);
            text = text + (legs == 0 ? "leg 5;" : "down 5;");
        }
    }

    private static void legsAndBendsThatDoNotExist() {
        String text = "";
        for (int legs = 0; legs <= 9; legs++) {
            SheetFolder x = Check.folder(text);
            for (int leg : new int[] {-1, legs, legs + 1, 9, 10, Integer.MIN_VALUE, Integer.MAX_VALUE}) {
                Check.index("8 leg " + leg + " of " + legs, () -> x.leg(leg));
                Check.index("21 leg " + leg + " of " + legs, () -> x.finishedCorner(leg, 0));
            }
            for (int bend : new int[] {-1, Math.max(0, legs - 1), legs, 8, 9, Integer.MIN_VALUE, Integer.MAX_VALUE}) {
                Check.index("9 bend " + bend + " of " + (legs - 1), () -> x.isUp(bend));
                Check.index("12 bend " + bend + " of " + (legs - 1), () -> x.linePlace(bend));
            }
            for (int leg = 0; leg < legs; leg++) {
                Check.same("8 leg " + leg + " of " + legs, x.leg(leg), leg + 1);
            }
            for (int bend = 0; bend < legs - 1; bend++) {
                Check.same("9 bend " + bend, x.isUp(bend), bend % 3 == 0);
            }
            text = text + (legs == 0 ? "leg " : legs % 3 == 1 ? "up " : "down ") + (legs + 1) + ";";
        }
    }

    private static void theDeductionAtTheEndsOfItsRanges() {
        SheetFolder x = new SheetFolder();
        Check.sameDouble("10 of a new object", x.deduction(), 40.0 - 1.5708 * 14.0);
        x.setSheet(1, 0, 0);
        Check.sameDouble("10 least of all", x.deduction(), 2.0);
        x.setSheet(60, 0, 0);
        Check.sameDouble("10 thickness 60", x.deduction(), 120.0);
        x.setSheet(60, 0, 100);
        Check.sameDouble("10 neutral 100", x.deduction(), 120.0 - 1.5708 * 60.0);
        x.setSheet(1, 0, 100);
        Check.sameDouble("10 neutral 100, thin", x.deduction(), 2.0 - 1.5708);
        x.setSheet(1, 200, 0);
        Check.sameDouble("10 radius 200", x.deduction(), 402.0 - 1.5708 * 200.0);
        x.setSheet(60, 200, 0);
        Check.sameDouble("10 thick, radius 200", x.deduction(), 520.0 - 1.5708 * 200.0);
        x.setSheet(60, 200, 100);
        Check.sameDouble("10 greatest of all", x.deduction(), 520.0 - 1.5708 * 260.0);
    }

    private static void theDeductionIsReckonedFromLeftToRight() {
        int otherwise = 0;
        for (int thickness = 1; thickness <= 60; thickness++) {
            SheetFolder x = new SheetFolder();
            for (int neutral = 0; neutral <= 100; neutral++) {
                int radius = (31 * thickness + 7 * neutral) % 201;
                double t = thickness;
                double r = radius;
                double part = neutral / 100.0;
                x.setSheet(thickness, radius, neutral);
                double due = 2 * (r + t) - 1.5708 * (r + part * t);
                Check.sameDouble("10 sheet " + thickness + " " + radius + " " + neutral, x.deduction(), due);
                otherwise += due != 2 * (r + t) - 1.5708 * (r + neutral * t / 100) ? 1 : 0;
            }
        }
        Check.same("10 the order of reckoning makes a difference", otherwise > 100, true);
    }

    private static void theFlatLengthOfFewAndManyLegs() {
        Check.sameDouble("11 no legs", Check.folder("sheet 60 200 0;").flatLength(), 0.0);
        Check.sameDouble("11 one leg, no deduction", Check.folder("leg 1;sheet 60 200 0;").flatLength(), 1.0);
        Check.sameDouble("11 one leg", Check.folder("leg 9999;").flatLength(), 9999.0);
        SheetFolder x = Check.folder("leg 1;up 1;sheet 60 200 0;");
        Check.sameDouble("11 less than nothing", x.flatLength(), 2 - 1 * x.deduction());
        SheetFolder y = Check.folder("sheet 7 13 33;" + NINE_LEGS);
        Check.sameDouble("11 nine legs", y.flatLength(), 89955 - 8 * y.deduction());
    }

    private static void theSumOfTheLegsIsExact() {
        SheetFolder x = Check.folder("sheet 60 137 99;leg 9999;up 1;down 9999;up 3;down 9998;up 7;down 9999;up 9;down 9999;");
        int sum = 0;
        for (int bend = 0; bend < 8; bend++) {
            sum += x.leg(bend);
            Check.sameDouble("12 bend " + bend, x.linePlace(bend), sum - (bend + 0.5) * x.deduction());
        }
        Check.sameDouble("11 the sum", x.flatLength(), 50014 - 8 * x.deduction());
    }

    private static void thePlacesOfTheFirstAndTheLastBend() {
        SheetFolder x = Check.folder("sheet 1 0 0;" + NINE_LEGS);
        Check.sameDouble("12 the first", x.linePlace(0), 9998.0);
        Check.sameDouble("12 the last", x.linePlace(7), 79964.0 - 15.0);
        Check.index("12 one more", () -> x.linePlace(8));
        Check.index("12 one less", () -> x.linePlace(-1));
        SheetFolder y = Check.folder("sheet 60 200 0;leg 1;up 9999;");
        Check.sameDouble("12 ahead of the begin", y.linePlace(0), 1 - 0.5 * y.deduction());
        Check.index("12 one bend alone", () -> y.linePlace(1));
        Check.index("12 one leg, no bend", () -> Check.folder("leg 5;").linePlace(0));
    }

    private static void theRatioAtTheEndsOfItsRanges() {
        int[][] sheets = {{1, 0}, {60, 0}, {1, 200}, {60, 200}, {1, 1}, {60, 1}, {3, 1}, {7, 200}, {59, 199}};
        double[] due = {0.0, 0.0, 2000.0, 2000.0 / 60, 10.0, 10.0 / 60, 10.0 / 3, 2000.0 / 7, 1990.0 / 59};
        for (int i = 0; i < sheets.length; i++) {
            SheetFolder x = Check.folder("sheet " + sheets[i][0] + " " + sheets[i][1] + " 50;");
            Check.sameDouble("13 ratio of " + sheets[i][0] + " " + sheets[i][1], x.ratio(), due[i]);
        }
        for (int thickness = 1; thickness <= 60; thickness++) {
            SheetFolder x = new SheetFolder();
            for (int radius = 0; radius <= 200; radius++) {
                x.setSheet(thickness, radius, 0);
                Check.sameDouble("13 ratio", x.ratio(), 10.0 * radius / thickness);
            }
        }
    }

    private static void withoutBackStatementsItIsNone() {
        SheetFolder x = Check.folder("sheet 1 200 0;");
        Check.sameDouble("14 none", x.springBack(), 0.0);
        Check.sameDouble("15 least", x.springBackFor(0.0), 0.0);
        Check.sameDouble("15 greatest", x.springBackFor(9999.0), 0.0);
        Check.same("16 none", x.swingAngle(), 900);
    }

    private static void oneBackStatementTellsForAll() {
        for (int ratio : new int[] {0, 7, 999}) {
            for (int angle : new int[] {0, 19, 300}) {
                SheetFolder x = Check.folder("back " + ratio + " " + angle + ";");
                for (double asked : new double[] {0.0, ratio, Math.nextUp((double) ratio), ratio + 1.0, 9999.0}) {
                    Check.sameDouble("15 at " + asked, x.springBackFor(asked), angle);
                }
                Check.sameDouble("14 at 10", x.springBack(), angle);
            }
        }
    }

    private static void atMostTheFirstRatio() {
        SheetFolder x = Check.folder("back 7 100;back 8 50;");
        Check.sameDouble("15 least of all", x.springBackFor(0.0), 100.0);
        Check.sameDouble("15 a hair below", x.springBackFor(Math.nextDown(7.0)), 100.0);
        Check.sameDouble("15 the first ratio", x.springBackFor(7.0), 100.0);
        Check.sameDouble("15 a bit above", x.springBackFor(7.25), 87.5);
        SheetFolder zero = Check.folder("back 0 100;back 8 20;");
        Check.sameDouble("15 the first ratio 0", zero.springBackFor(0.0), 100.0);
        Check.sameDouble("15 above 0", zero.springBackFor(1.0), 90.0);
    }

    private static void atLeastTheLastRatio() {
        SheetFolder x = Check.folder("back 7 100;back 8 50;");
        Check.sameDouble("15 a bit below", x.springBackFor(7.75), 62.5);
        Check.sameDouble("15 the last ratio", x.springBackFor(8.0), 50.0);
        Check.sameDouble("15 a hair above", x.springBackFor(Math.nextUp(8.0)), 50.0);
        Check.sameDouble("15 greatest of all", x.springBackFor(9999.0), 50.0);
        SheetFolder last = Check.folder("back 998 0;back 999 300;");
        Check.sameDouble("15 the last ratio 999", last.springBackFor(999.0), 300.0);
        Check.sameDouble("15 half below it", last.springBackFor(998.5), 150.0);
    }

    private static void betweenTwoNeighbours() {
        SheetFolder x = Check.folder("back 10 20;back 20 40;back 30 0;back 40 0;");
        double[][] due = {{10.5, 21}, {15, 30}, {19.5, 39}, {20, 40}, {20.5, 38}, {25, 20}, {29.5, 2}, {30, 0}, {35, 0}, {40, 0}};
        for (double[] d : due) {
            Check.sameDouble("15 at " + d[0], x.springBackFor(d[0]), d[1]);
        }
        double above = Math.nextUp(20.0);
        Check.sameDouble("15 a hair above a neighbour", x.springBackFor(above), 40 + -40 * (above - 20) / 10);
        double below = Math.nextDown(20.0);
        Check.sameDouble("15 a hair below a neighbour", x.springBackFor(below), 20 + 20 * (below - 10) / 10);
    }

    private static void theSpringBackIsReckonedFromLeftToRight() {
        int otherwise = 0;
        SheetFolder x = Check.folder("back 3 7;back 10 290;back 13 4;");
        for (int i = 1; i < 200; i++) {
            double ratio = 3 + i / 21.0;
            boolean isFirst = ratio <= 10;
            double due = isFirst ? 7.0 + 283.0 * (ratio - 3.0) / 7.0 : 290.0 + -286.0 * (ratio - 10.0) / 3.0;
            double other = isFirst ? 7.0 + 283.0 * ((ratio - 3.0) / 7.0) : 290.0 + -286.0 * ((ratio - 10.0) / 3.0);
            Check.sameDouble("15 at " + ratio, x.springBackFor(ratio), due);
            otherwise += due != other ? 1 : 0;
        }
        Check.same("15 the order of reckoning makes a difference", otherwise > 5, true);
    }

    private static void eightBackStatements() {
        SheetFolder x = Check.folder("back 0 300;back 1 0;back 10 90;back 12 100;back 100 12;back 500 0;back 998 1;back 999 300;");
        double[][] due = {{0, 300}, {0.5, 150}, {1, 0}, {5.5, 45}, {10, 90}, {11, 95}, {12, 100}, {56, 56}, {100, 12},
            {300, 6}, {500, 0}, {749, 0.5}, {998, 1}, {998.5, 150.5}, {999, 300}, {1000, 300}, {9999, 300}};
        for (double[] d : due) {
            Check.sameDouble("15 at " + d[0], x.springBackFor(d[0]), d[1]);
        }
    }

    private static void theSpringBackOfTheSheet() {
        String table = "back 10 20;back 20 40;";
        int[][] sheets = {{10, 9}, {10, 10}, {10, 11}, {10, 15}, {10, 20}, {10, 21}, {60, 0}, {1, 200}};
        double[] due = {20, 20, 22, 30, 40, 40, 20, 40};
        for (int i = 0; i < sheets.length; i++) {
            SheetFolder x = Check.folder(table + "sheet " + sheets[i][0] + " " + sheets[i][1] + " 0;");
            Check.sameDouble("14 sheet " + sheets[i][0] + " " + sheets[i][1], x.springBack(), due[i]);
            Check.sameDouble("15 for its ratio", x.springBackFor(x.ratio()), due[i]);
            Check.same("16 its angle", x.swingAngle(), 900 + (int) due[i]);
        }
    }

    private static void theRatioAskedFor() {
        double[] wrong = {-Double.MIN_VALUE, -1.0, Math.nextUp(9999.0), 10000.0, Double.MAX_VALUE, -Double.MAX_VALUE,
            Double.NaN, Double.POSITIVE_INFINITY, Double.NEGATIVE_INFINITY};
        for (String text : new String[] {"", "back 5 5;", "leg 5;up 5;back 5 5;back 9 7;"}) {
            for (double ratio : wrong) {
                Check.refused("15 ratio " + ratio, IllegalArgumentException.class, () -> Check.folder(text),
                        x -> x.springBackFor(ratio));
            }
        }
        SheetFolder x = Check.folder("back 5 5;back 9 7;");
        Check.sameDouble("15 ratio 0.0", x.springBackFor(0.0), 5.0);
        Check.sameDouble("15 ratio -0.0", x.springBackFor(-0.0), 5.0);
        Check.sameDouble("15 the least ratio above it", x.springBackFor(Double.MIN_VALUE), 5.0);
        Check.sameDouble("15 ratio 9999.0", x.springBackFor(9999.0), 7.0);
        Check.sameDouble("15 a hair below", x.springBackFor(Math.nextDown(9999.0)), 7.0);
    }

    private static void theSwingAngleIsRoundedDown() {
        // With a thickness of 10 the ratio is the radius, and the table tells its hundredth.
        SheetFolder x = Check.folder("sheet 10 0 0;back 0 0;back 100 1;");
        for (int radius = 0; radius <= 200; radius++) {
            x.setSheet(10, radius, 0);
            Check.same("16 at " + radius, x.swingAngle(), radius < 100 ? 900 : 901);
        }
        Check.same("16 least", Check.folder("back 0 0;").swingAngle(), 900);
        Check.same("16 greatest", Check.folder("back 0 300;").swingAngle(), 1200);
        Check.same("16 a bit below the greatest", Check.folder("sheet 10 199 0;back 0 0;back 200 300;").swingAngle(), 1198);
        Check.same("16 just a whole number", Check.folder("sheet 10 15 0;back 10 20;back 20 22;").swingAngle(), 921);
        Check.same("16 a tenth above it", Check.folder("sheet 10 16 0;back 10 20;back 20 22;").swingAngle(), 921);
        Check.same("16 a tenth below it", Check.folder("sheet 10 14 0;back 10 20;back 20 22;").swingAngle(), 920);
        Check.same("16 falling", Check.folder("sheet 10 11 0;back 10 20;back 20 19;").swingAngle(), 919);
    }

    private static void theNumbersOfTheTools() {
        SheetFolder x = Check.folder("beam 0 9999;table 9999 0;wing 0 9999;gauge 9999 9999;flange 9999;");
        int[][] due = {{0, 9999}, {9999, 0}, {0, 9999}, {9999, 9999}, {9999}};
        for (int tool = -2; tool <= 6; tool++) {
            for (int what = -2; what <= 3; what++) {
                int t = tool;
                int w = what;
                if (tool >= 0 && tool <= 4 && what >= 0 && what < due[tool].length) {
                    Check.same("17 tool " + tool + " " + what, x.tool(tool, what), due[tool][what]);
                } else {
                    Check.argument("17 tool " + tool + " " + what, () -> x.tool(t, w));
                }
            }
        }
        for (int far : new int[] {Integer.MIN_VALUE, Integer.MAX_VALUE, 1 << 30, -1 << 31}) {
            Check.argument("17 tool " + far, () -> x.tool(far, 0));
            Check.argument("17 what " + far, () -> x.tool(0, far));
            Check.argument("17 both " + far, () -> x.tool(far, far));
        }
    }

    private static void finishedWithoutBends() {
        Check.same("18 no legs", new SheetFolder().finishedWidth(), 0);
        Check.same("19 no legs", new SheetFolder().finishedHeight(), 0);
        for (int length : new int[] {1, 9999}) {
            SheetFolder x = Check.folder("leg " + length + ";");
            Check.same("18 one leg", x.finishedWidth(), length);
            Check.same("19 one leg", x.finishedHeight(), 0);
            Check.same("21 one leg, x", x.finishedCorner(0, 0), length);
            Check.same("21 one leg, y", x.finishedCorner(0, 1), 0);
        }
    }

    private static void finishedAtItsGreatest() {
        SheetFolder x = Check.folder("leg 9999;up 9999;down 9999;up 9999;down 9999;up 9999;down 9999;up 9999;down 9999;");
        Check.same("18 five level legs", x.finishedWidth(), 49995);
        Check.same("19 four upright legs", x.finishedHeight(), 39996);
        Check.same("21 the end, x", x.finishedCorner(8, 0), 49995);
        Check.same("21 the end, y", x.finishedCorner(8, 1), 39996);
        SheetFolder down = Check.folder("leg 9999;down 9999;up 9999;down 9999;up 9999;down 9999;up 9999;down 9999;up 9999;");
        Check.same("19 downwards", down.finishedHeight(), 39996);
        Check.same("21 downwards", down.finishedCorner(8, 1), -39996);
    }

    private static void finishedOnEachSideOfTheBegin() {
        SheetFolder up = Check.folder("leg 5;up 7;up 30;up 20;");
        Check.same("18 behind the begin", up.finishedWidth(), 30);
        Check.same("19 below the begin", up.finishedHeight(), 20);
        Check.same("21 x behind", up.finishedCorner(3, 0), -25);
        Check.same("21 y below", up.finishedCorner(3, 1), -13);
        SheetFolder down = Check.folder("leg 5;down 7;down 30;down 20;");
        Check.same("18 behind the begin, down", down.finishedWidth(), 30);
        Check.same("19 above the begin, down", down.finishedHeight(), 20);
        Check.same("21 y above", down.finishedCorner(3, 1), 13);
        SheetFolder spiral = Check.folder("leg 1;up 2;up 3;up 4;up 5;up 6;up 7;up 8;up 9;");
        Check.same("18 spiral", spiral.finishedWidth(), 9);
        Check.same("19 spiral", spiral.finishedHeight(), 8);
    }

    private static void finishedCornersOfTheFirstAndTheLastLeg() {
        SheetFolder x = Check.folder("leg 10;down 20;down 30;up 40;down 50;up 60;up 70;up 80;up 90;");
        int[][] due = {{10, 0}, {10, -20}, {-20, -20}, {-20, -60}, {-70, -60}, {-70, -120}, {0, -120}, {0, -40}, {-90, -40}};
        for (int leg = 0; leg < 9; leg++) {
            Check.same("21 x of leg " + leg, x.finishedCorner(leg, 0), due[leg][0]);
            Check.same("21 y of leg " + leg, x.finishedCorner(leg, 1), due[leg][1]);
            for (int what : new int[] {-1, 2, Integer.MIN_VALUE, Integer.MAX_VALUE}) {
                int asked = leg;
                Check.argument("21 what " + what, () -> x.finishedCorner(asked, what));
            }
        }
        for (int leg : new int[] {-1, 9, Integer.MIN_VALUE, Integer.MAX_VALUE}) {
            Check.index("21 the leg first", () -> x.finishedCorner(leg, 2));
            Check.index("21 the leg first", () -> x.finishedCorner(leg, -1));
        }
        Check.index("21 no legs", () -> new SheetFolder().finishedCorner(0, 0));
        Check.index("21 no legs, the leg first", () -> new SheetFolder().finishedCorner(0, 2));
    }

    private static void fewLegsAreNeverCrossed() {
        Check.same("20 no legs", new SheetFolder().isFinishedCrossed(), false);
        Check.same("20 one leg", Check.folder("leg 1;").isFinishedCrossed(), false);
        Check.same("20 two legs", Check.folder("leg 1;down 1;").isFinishedCrossed(), false);
        for (String second : new String[] {"up 1;", "down 1;"}) {
            for (String third : new String[] {"up 1;", "down 1;"}) {
                Check.same("20 three legs", Check.folder("leg 1;" + second + third).isFinishedCrossed(), false);
            }
        }
    }

    private static void aPointInCommonIsEnough() {
        Check.same("20 the end on the begin", Check.folder("leg 9;up 9;up 9;up 9;").isFinishedCrossed(), true);
        Check.same("20 one above the begin", Check.folder("leg 9;up 9;up 9;up 8;").isFinishedCrossed(), false);
        Check.same("20 one beside the begin", Check.folder("leg 9;up 9;up 10;up 9;").isFinishedCrossed(), false);
        Check.same("20 the end on a leg", Check.folder("leg 9;down 4;down 5;down 4;").isFinishedCrossed(), true);
        Check.same("20 through a leg", Check.folder("leg 9;down 4;down 5;down 5;").isFinishedCrossed(), true);
        Check.same("20 beside a leg", Check.folder("leg 9;down 4;down 9;down 3;").isFinishedCrossed(), false);
        Check.same("20 along a leg", Check.folder("leg 2;up 3;up 4;up 3;up 9;").isFinishedCrossed(), true);
        Check.same("20 along a leg, one apart", Check.folder("leg 2;up 3;up 9;up 2;up 7;").isFinishedCrossed(), false);
        Check.same("20 in a line, the ends meet", Check.folder("leg 2;up 3;up 6;up 3;up 4;").isFinishedCrossed(), true);
        Check.same("20 in a line, one apart", Check.folder("leg 2;up 3;up 6;up 3;up 3;").isFinishedCrossed(), false);
        String spiral = "leg 1;up 2;up 3;up 4;up 5;up 6;up 7;up 8;";
        Check.same("20 the first and the last of nine", Check.folder("leg 9;up 8;up 7;up 6;up 5;up 4;up 3;up 2;up 1;")
                .isFinishedCrossed(), false);
        Check.same("20 a spiral", Check.folder(spiral + "up 9;").isFinishedCrossed(), false);
        String round = "leg 9;up 9;up 4;up 2;down 1;down 2;up 6;up 9;";
        Check.same("20 leg 8 meets leg 0", Check.folder(round + "up 2;").isFinishedCrossed(), true);
        Check.same("20 leg 8 ends one ahead of leg 0", Check.folder(round + "up 1;").isFinishedCrossed(), false);
    }

    private static void symmetricWithoutLegs() {
        Check.same("22 no legs", Check.folder("beam 1 1;back 1 1;").isSymmetric(), true);
        Check.same("22 one leg", Check.folder("leg 9999;").isSymmetric(), true);
    }

    private static void symmetricUpToTheLastLegAndBend() {
        String same = "leg 1;up 2;down 3;down 4;up 5;up 4;down 3;down 2;up 1;";
        Check.same("22 nine legs", Check.folder(same).isSymmetric(), true);
        for (int leg = 0; leg < 9; leg++) {
            SheetFolder x = Check.folder(same);
            x.setLeg(leg, 10);
            Check.same("22 another leg " + leg, x.isSymmetric(), leg == 4);
        }
        for (int bend = 0; bend < 8; bend++) {
            SheetFolder x = Check.folder(same);
            x.setDirection(bend, !x.isUp(bend));
            Check.same("22 another bend " + bend, x.isSymmetric(), false);
        }
        SheetFolder even = Check.folder("leg 1;up 2;down 2;up 1;");
        Check.same("22 a bend in the middle, down", even.isSymmetric(), true);
        even.setDirection(1, true);
        Check.same("22 a bend in the middle, up", even.isSymmetric(), true);
    }

    private static void theSmallestNumberOfSeveralLongest() {
        Check.same("23 no legs", new SheetFolder().longestLeg(), SheetFolder.NONE);
        SheetFolder x = Check.folder("leg 5;up 5;up 5;up 5;up 5;up 5;up 5;up 5;up 5;");
        Check.same("23 all the same", x.longestLeg(), 0);
        for (int leg = 8; leg >= 0; leg--) {
            x.setLeg(leg, 6);
            Check.same("23 from leg " + leg + " on", x.longestLeg(), leg);
        }
        SheetFolder y = Check.folder("leg 9999;up 1;up 9998;");
        Check.same("23 the first", y.longestLeg(), 0);
        y.setLeg(2, 9999);
        Check.same("23 the first of two", y.longestLeg(), 0);
        y.setLeg(0, 9998);
        Check.same("23 the last", y.longestLeg(), 2);
    }
}
