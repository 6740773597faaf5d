/** The sentences of TEXT, and of the promises 1 to 5, that name a boundary: a method for each. */
public final class TextBoundsTest {
    private static final String EIGHT_BENDS = "leg 1;up 2;down 3;up 4;down 5;up 6;down 7;up 8;down 9;";
    private static final String EIGHT_BACKS =
            "back 0 1;back 1 2;back 2 3;back 3 4;back 4 5;back 5 6;back 6 7;back 7 8;";

    public static void main(String[] args) {
        aNewObjectIsWhatAnEmptyTextDefines();
        anEmptyTextTakesAllAway();
        theBufferHolds600Bytes();
        feedKeepsTheOrderOfTheBytes();
        loadReadsTheFirstBytesAlone();
        theLengthIsNoneToAllOfTheBuffer();
        aTextHasAtMost600Bytes();
        aWordHasOneToSixLetters();
        aNumberHasOneToFourDigits();
        anyOtherByteIsAnIllegalToken();
        blanksMayStandBetweenAllTokens();
        aTokenExtendsAsFarAsPossible();
        eachStatementEndsWithASemicolon();
        eachNumberHasARange();
        aRatioIsGreaterThanTheOneBefore();
        mostIsNotBelowLeast();
        theLegComesFirstAndOnce();
        thereAreAtMostEightBends();
        thereAreAtMostEightBacks();
        theLastRepeatedStatementCounts();
        withoutThemTheDefaultsCount();
        theErrorIsTheFirstToken();
        aTokenIsRightEvenIfNoneCanFollow();
        aTextThatEndsTooEarly();
        ofTwoKindsTheSmallerOne();
        theErrorOfTheLatestLoad();
        anIllegalTextEmptiesTheBufferAlone();
        aLegalTextMakesNoBendAndForgetsTheEdits();
        nothingIsLeftOfALongerText();
        Check.end();
    }

    private static void aNewObjectIsWhatAnEmptyTextDefines() {
        SheetFolder loaded = new SheetFolder();
        Check.same("1 empty text", loaded.load(0), 0);
        Check.sameText("1 new object", Check.story(new SheetFolder()), Check.story(loaded));
        Check.same("1 empty buffer", new SheetFolder().feed(0, 0, 0, 0, 0), 20);
        Check.refused("1 empty buffer", IllegalArgumentException.class, SheetFolder::new, x -> x.load(1));
    }

    private static void anEmptyTextTakesAllAway() {
        SheetFolder x = Check.folder("sheet 1 2 3;leg 4;up 5;beam 6 7;table 8 9;wing 1 2;gauge 0 4;flange 5;cost 6 7 8;"
                + "back 5 5;");
        x.fold(0, 0);
        Check.same("3 empty text", x.load(0), 0);
        Check.sameText("3 nothing is left", Check.story(x), Check.story(new SheetFolder()));
    }

    private static int feedBlanks(SheetFolder x) {
        return x.feed(0x20202020, 0x0A0A0A0A, 0x20202020, 0x0A0A0A0A, 0x20202020);
    }

    private static void theBufferHolds600Bytes() {
        SheetFolder x = new SheetFolder();
        for (int i = 1; i <= 29; i++) {
            Check.same("2 feed " + i, feedBlanks(x), 20 * i);
        }
        // "leg 5;up 6;down 7;  "
        Check.same("2 feed 30", x.feed(0x6C656720, 0x353B7570, 0x20363B64, 0x6F776E20, 0x373B2020), 600);
        Check.same("2 one more is too much", x.feed(-1, -1, -1, -1, -1), SheetFolder.FULL);
        Check.same("2 and again", feedBlanks(x), SheetFolder.FULL);
        Check.argument("3 601 bytes", () -> x.load(601));
        Check.same("2 still full", x.feed(0, 0, 0, 0, 0), SheetFolder.FULL);
        Check.same("2 nothing was appended", x.load(600), 2);
        Check.same("3 the last leg", x.leg(2), 7);
        Check.same("3 the buffer is empty", feedBlanks(x), 20);
        Check.same("2 and fills again", feedBlanks(x), 40);
        Check.same("3 blanks alone", x.load(40), 0);
    }

    private static void feedKeepsTheOrderOfTheBytes() {
        for (int place = 0; place < 20; place++) {
            for (int b : new int[] {1, 127, 128, 255}) {
                int[] words = {0x20202020, 0x20202020, 0x20202020, 0x20202020, 0x20202020};
                int shift = 24 - place % 4 * 8;
                words[place / 4] = words[place / 4] & ~(255 << shift) | b << shift;
                SheetFolder x = new SheetFolder();
                feedBlanks(x);
                Check.same("2 feed", x.feed(words[0], words[1], words[2], words[3], words[4]), 40);
                Check.same("2 byte " + b + " at " + place, x.load(40), SheetFolder.BAD_TEXT);
                Check.same("2 kind of byte " + b, x.errorKind(), 1);
                Check.same("2 place of byte " + place, x.errorPosition(), 20 + place);
            }
        }
    }

    private static void loadReadsTheFirstBytesAlone() {
        String text = "leg 123;up 45;?";
        int[][] due = {{0, 0, -1}, {2, 2, 0}, {3, 2, 3}, {4, 2, 4}, {5, 2, 5}, {7, 2, 7}, {9, 2, 8}, {10, 2, 10},
            {12, 2, 12}, {15, 1, 14}};
        for (int[] d : due) {
            SheetFolder x = new SheetFolder();
            Check.feed(x, text);
            Check.same("3 load of " + d[0], x.load(d[0]), d[1] == 0 ? 0 : SheetFolder.BAD_TEXT);
            Check.same("4 load of " + d[0], x.errorKind(), d[1]);
            Check.same("5 load of " + d[0], x.errorPosition(), d[2]);
            Check.argument("3 empty behind " + d[0], () -> x.load(1));
        }
        SheetFolder y = new SheetFolder();
        Check.feed(y, text);
        Check.same("3 before the rest", y.load(14), 1);
        Check.feed(y, "leg 7;");
        Check.same("3 the rest is gone", y.load(6), 0);
    }

    private static void theLengthIsNoneToAllOfTheBuffer() {
        String text = "leg 5;up 6;         ";
        for (int length : new int[] {-1, 21, 40, 600, 601, Integer.MIN_VALUE, Integer.MAX_VALUE}) {
            Check.refused("3 length " + length, IllegalArgumentException.class, () -> {
                SheetFolder x = Check.folder("leg 7;up 8;");
                x.fold(0, 0);
                x.write();
                Check.load(x, "leg 0");
                Check.feed(x, text);
                return x;
            }, x -> x.load(length));
            SheetFolder y = new SheetFolder();
            Check.feed(y, text);
            Check.argument("3 length " + length, () -> y.load(length));
            Check.same("3 the buffer keeps its bytes", y.load(20), 1);
        }
        SheetFolder z = new SheetFolder();
        Check.feed(z, text);
        Check.same("3 length 0", z.load(0), 0);
        Check.same("3 emptied by length 0, too", z.feed(0, 0, 0, 0, 0), 20);
    }

    private static void aTextHasAtMost600Bytes() {
        String text = "leg 5;" + " ".repeat(588) + "up 6; ";
        SheetFolder x = new SheetFolder();
        Check.feed(x, text);
        Check.same("3 600 bytes", x.load(600), 1);
        Check.legal("3 the semicolon is the last of 600 bytes", "leg 5;" + "\n".repeat(589) + "up 6;", 1);
        Check.error("5 the last byte", "leg 5;" + " ".repeat(593) + "?", 1, 599);
        Check.error("5 behind the last byte", "leg 5;" + " ".repeat(590) + "up 6", 2, 600);
        Check.error("5 behind blanks", "leg 5" + " ".repeat(595), 2, 600);
        Check.error("4 600 letters", "a".repeat(600), 1, 0);
        Check.error("4 600 digits", "leg " + "1".repeat(596), 1, 4);
        Check.error("4 599 blanks", " ".repeat(599) + "a", 2, 599);
        // 600 bytes of statements, with no blank that could be left away
        String many = "flange 1;".repeat(66) + "leg 5;";
        Check.legal("3 67 statements", many, 0);
        Check.error("5 and their last one is wrong", "flange 1;".repeat(66) + "leg 0;", 3, 598);
        Check.error("4 600 semicolons", ";".repeat(600), 2, 0);
    }

    private static void aWordHasOneToSixLetters() {
        Check.error("4 one letter", "a", 2, 0);
        Check.error("4 one letter", "z 5;", 2, 0);
        Check.error("4 six letters", "azazaz 5;", 2, 0);
        Check.error("4 seven letters", "azazaza 5;", 1, 0);
        Check.error("4 seven letters, a word ahead of them", "flangee 5;", 1, 0);
        Check.legal("3 six letters", "flange 5;", 0);
        Check.legal("3 two letters", "leg 5;up 5;", 1);
        Check.error("4 six letters for a number", "leg flange", 2, 4);
        Check.error("4 seven letters for a number", "leg flanges", 1, 4);
        Check.error("4 seven letters for a semicolon", "leg 5flanges", 1, 5);
        Check.error("4 six letters for a semicolon", "leg 5flange", 2, 5);
        Check.error("4 upper case", "LEG 5;", 1, 0);
        Check.error("4 upper case behind lower case", "leG 5;", 2, 0);
        String[] words = {"sheet", "leg", "up", "down", "back", "beam", "table", "wing", "gauge", "flange", "cost"};
        for (String word : words) {
            Check.error("4 a letter less", word.substring(0, word.length() - 1) + " 1;", 2, 0);
            Check.error("4 no first letter", word.substring(1) + " 1;", 2, 0);
            Check.error("4 a letter more", word + "a 1;", word.length() == 6 ? 1 : 2, 0);
            Check.error("4 another first letter", "q" + word.substring(1) + " 1;", 2, 0);
            Check.error("4 another last letter", word.substring(0, word.length() - 1) + "q 1;", 2, 0);
        }
    }

    private static void aNumberHasOneToFourDigits() {
        Check.legal("3 one digit", "leg 1;", 0);
        Check.legal("3 four digits", "leg 9999;", 0);
        Check.legal("3 four digits for one", "leg 0001;", 0);
        Check.error("4 five digits", "leg 00001;", 1, 4);
        Check.error("4 five digits", "leg 10000;", 1, 4);
        Check.error("4 five digits for a word", "00000", 1, 0);
        Check.error("4 four digits for a word", "0000", 2, 0);
        Check.error("4 five digits for a semicolon", "leg 5 00000", 1, 6);
        Check.error("4 four digits for a semicolon", "leg 5 0000", 2, 6);
        for (int digit = 0; digit <= 9; digit++) {
            SheetFolder x = Check.folder("leg 1" + digit + digit + digit + ";");
            Check.same("3 the digit " + digit, x.leg(0), 1000 + 111 * digit);
        }
    }

    private static void anyOtherByteIsAnIllegalToken() {
        for (int b = 0; b < 256; b++) {
            char c = (char) b;
            boolean isLetter = c >= 'a' && c <= 'z';
            boolean isDigit = c >= '0' && c <= '9';
            String call = "4 byte " + b;
            if (b == 32 || b == 10) {
                Check.legal(call + " ahead", c + "leg 5;", 0);
                Check.legal(call + " between", "leg" + c + "5" + c + ";", 0);
                Check.legal(call + " behind", "leg 5;" + c, 0);
            } else if (c == ';') {
                Check.error(call + " ahead", ";leg 5;", 2, 0);
                Check.error(call + " between", "leg ;5;", 2, 4);
                Check.error(call + " behind", "leg 5;;", 2, 6);
            } else {
                int kind = isLetter || isDigit ? 2 : 1;
                Check.error(call + " ahead", c + " leg 5;", kind, 0);
                Check.error(call + " between", "leg 5 " + c + ";", kind, 6);
                Check.error(call + " behind", "leg 5;" + c, kind, 6);
                Check.error(call + " at once behind a word", "up" + c + "0", isLetter ? 2 : 4, 0);
                Check.error(call + " at once behind a number", "leg 5" + c, kind, isDigit ? 6 : 5);
            }
        }
    }

    private static void blanksMayStandBetweenAllTokens() {
        Check.legal("3 none", "sheet1 2 3;leg4;up5;beam6 7;cost1 2 3;", 1);
        Check.legal("3 one", " sheet 1 2 3 ; leg 4 ; up 5 ; ", 1);
        Check.legal("3 line feeds", "\nsheet\n1\n2\n3\n;\nleg\n4\n;\nup\n5\n;\n", 1);
        Check.legal("3 many", " \n \n sheet \n\n1  2 \n 3\n ;leg  \n  4 ;up\n\n\n5;  \n\n", 1);
        Check.legal("3 blanks alone", " \n\n ", 0);
        Check.error("5 blanks count", " \n leg \n 0;", 3, 9);
        Check.error("4 a blank parts a word", "le g 5;", 2, 0);
        Check.error("4 a blank parts a number", "leg 5 5;", 2, 6);
    }

    private static void aTokenExtendsAsFarAsPossible() {
        Check.error("4 two words in one", "legup 5;", 2, 0);
        Check.error("4 two words in a long one", "legdown 5;", 1, 0);
        Check.error("4 two numbers in one", "beam 55;", 2, 7);
        Check.error("4 two numbers in a long one", "beam 5555555;", 1, 5);
        Check.legal("3 a word ends at a digit", "leg5;", 0);
        Check.error("4 a number ends at a letter", "leg 5up 6;", 2, 5);
        Check.error("4 a semicolon is alone", "leg 5;;up 6;", 2, 6);
        Check.same("3 all four digits", Check.folder("leg 1234;").leg(0), 1234);
    }

    private static final String[] STATEMENTS = {"sheet 1 2 3", "leg 1", "up 1", "down 1", "back 1 2", "beam 1 2",
        "table 1 2", "wing 1 2", "gauge 1 2", "flange 1", "cost 1 2 3"};

    private static String ahead(String statement) {
        return statement.startsWith("up") || statement.startsWith("down") ? "leg 1;" : "";
    }

    private static void eachStatementEndsWithASemicolon() {
        for (String statement : STATEMENTS) {
            String text = ahead(statement) + statement;
            int from = text.length() - statement.length();
            Check.legal("3 a statement", text + ";", from > 0 ? 1 : 0);
            Check.error("4 no semicolon", text, 2, text.length());
            Check.error("4 no semicolon", text + " flange 1;", 2, text.length() + 1);
            Check.error("4 a number too many", text + " 1;", 2, text.length() + 1);
            Check.error("4 a semicolon too many", text + ";;", 2, text.length() + 1);
            Check.error("4 a number too few", text.substring(0, text.length() - 2) + ";", 2, text.length() - 2);
            Check.error("4 a word for the last number", text.substring(0, text.length() - 1) + "up;", 2, text.length() - 1);
        }
    }

    /** A text with a number at the place of %, and the least and the greatest one there. */
    private static void range(String text, int least, int greatest) {
        int position = text.indexOf('%');
        SheetFolder x = new SheetFolder();
        for (int number : new int[] {least, greatest, (least + greatest) / 2}) {
            String legal = text.replace("%", String.valueOf(number));
            Check.same("3 in range: " + legal, Check.load(x, legal) == SheetFolder.BAD_TEXT, false);
        }
        for (int number : new int[] {least - 1, greatest + 1}) {
            if (number >= 0 && number <= 9999) {
                Check.error("4 out of range", text.replace("%", String.valueOf(number)), 3, position);
            }
        }
        if (greatest < 9999) {
            Check.error("4 far out of range", text.replace("%", "9999"), 3, position);
        }
        Check.error("4 five digits", text.replace("%", "10000"), 1, position);
    }

    private static void eachNumberHasARange() {
        range("sheet % 0 0;", 1, 60);
        range("sheet 1 % 0;", 0, 200);
        range("sheet 1 0 %;", 0, 100);
        range("leg %;", 1, 9999);
        range("leg 1;up %;", 1, 9999);
        range("leg 1;down %;", 1, 9999);
        range("back % 0;", 0, 999);
        range("back 0 %;", 0, 300);
        range("beam % 0;", 0, 9999);
        range("beam 0 %;", 0, 9999);
        range("table % 0;", 0, 9999);
        range("table 0 %;", 0, 9999);
        range("wing % 0;", 0, 9999);
        range("wing 0 %;", 0, 9999);
        range("gauge % 9999;", 0, 9999);
        range("gauge 0 %;", 0, 9999);
        range("flange %;", 0, 9999);
        range("cost % 0 0;", 0, 99);
        range("cost 0 % 0;", 0, 99);
        range("cost 0 0 %;", 0, 99);
    }

    private static void aRatioIsGreaterThanTheOneBefore() {
        range("back 0 0;back % 0;", 1, 999);
        range("back 5 0;back % 0;", 6, 999);
        range("back 998 0;back % 0;", 999, 999);
        range("back 3 0;back 5 0;back % 0;", 6, 999);
        range("back 5 0;leg 1;back % 0;", 6, 999);
        Check.legal("3 the angle may fall", "back 5 300;back 6 0;back 7 0;", 0);
        SheetFolder x = Check.folder("back 500 1;");
        Check.same("3 another text begins anew", Check.load(x, "back 0 7;"), 0);
        Check.sameDouble("3 with its own table", x.springBack(), 7.0);
    }

    private static void mostIsNotBelowLeast() {
        range("gauge 7 %;", 7, 9999);
        range("gauge 9999 %;", 9999, 9999);
        range("gauge 0 0;gauge 5 %;", 5, 9999);
        range("gauge 9 9;gauge 0 %;", 0, 9999);
    }

    private static void theLegComesFirstAndOnce() {
        Check.error("4 up without a leg", "up 5;", 4, 0);
        Check.error("4 down without a leg", "beam 1 1; down 5;", 4, 10);
        Check.error("4 up ahead of the leg", "up 5;leg 5;", 4, 0);
        Check.error("4 a second leg", "leg 5;leg 5;", 4, 6);
        Check.error("4 a second leg behind bends", "leg 5;up 5;down 5;leg 5;", 4, 18);
        Check.legal("3 the leg behind others", "beam 1 1;back 1 1;leg 5;cost 1 1 1;up 5;", 1);
        SheetFolder x = Check.folder("leg 5;up 6;");
        Check.same("3 another text has no leg yet", Check.load(x, "up 6;"), SheetFolder.BAD_TEXT);
        Check.same("4 of the new text", x.errorKind(), 4);
        Check.same("3 nor one too many", Check.load(x, "leg 8;"), 0);
        SheetFolder y = Check.folder(EIGHT_BENDS);
        for (int bend = 0; bend < 8; bend++) {
            Check.same("3 leg " + bend, y.leg(bend), bend + 1);
            Check.same("3 direction of " + bend, y.isUp(bend), bend % 2 == 0);
        }
        Check.same("3 leg 8", y.leg(8), 9);
    }

    private static void thereAreAtMostEightBends() {
        Check.legal("3 seven", EIGHT_BENDS.substring(0, EIGHT_BENDS.length() - 7), 7);
        Check.legal("3 eight", EIGHT_BENDS, 8);
        int end = EIGHT_BENDS.length();
        Check.error("4 a ninth, up", EIGHT_BENDS + "up 1;", 5, end);
        Check.error("4 a ninth, down", EIGHT_BENDS + " down 1;", 5, end + 1);
        Check.error("4 a ninth, and nothing behind it", EIGHT_BENDS + "up", 5, end);
        Check.error("4 a ninth with a wrong length", EIGHT_BENDS + "up 0;", 5, end);
        Check.legal("3 other statements behind eight", EIGHT_BENDS + "beam 1 1;flange 2;back 1 1;", 8);
        SheetFolder x = Check.folder(EIGHT_BENDS);
        Check.same("3 eight more, of another text", Check.load(x, EIGHT_BENDS), 8);
    }

    private static void thereAreAtMostEightBacks() {
        int end = EIGHT_BACKS.length();
        Check.legal("3 eight", EIGHT_BACKS, 0);
        Check.error("4 a ninth", EIGHT_BACKS + "back 8 0;", 5, end);
        Check.error("4 a ninth, and nothing behind it", EIGHT_BACKS + "\nback", 5, end + 1);
        Check.error("4 a ninth that does not rise", EIGHT_BACKS + "back 0 0;", 5, end);
        Check.legal("3 with eight bends", EIGHT_BENDS + EIGHT_BACKS, 8);
        Check.error("4 a ninth bend comes first", EIGHT_BACKS + EIGHT_BENDS + "up 1;back 8 0;", 5, end + EIGHT_BENDS.length());
        SheetFolder x = Check.folder(EIGHT_BACKS);
        Check.same("3 eight more, of another text", Check.load(x, EIGHT_BACKS), 0);
        for (int ratio = 0; ratio < 8; ratio++) {
            Check.sameDouble("3 all eight tell", x.springBackFor(ratio), ratio + 1.0);
        }
    }

    private static void theLastRepeatedStatementCounts() {
        SheetFolder x = Check.folder("leg 9;sheet 1 2 3;sheet 40 5 6;sheet 7 8 9;up 8;beam 1 2;beam 13 14;table 3 4;"
                + "table 15 16;wing 5 6;wing 17 18;gauge 7 8;gauge 9 20;flange 9;flange 8;cost 1 2 3;cost 4 50 60;"
                + "down 7;");
        int[][] due = {{13, 14}, {15, 16}, {17, 18}, {9, 20}, {8}};
        for (int tool = 0; tool < 5; tool++) {
            for (int what = 0; what < due[tool].length; what++) {
                Check.same("3 tool " + tool + ", " + what, x.tool(tool, what), due[tool][what]);
            }
        }
        Check.sameDouble("3 sheet", x.deduction(), 2.0 * (8 + 7) - 1.5708 * (8 + 9 / 100.0 * 7));
        Check.same("3 sheet", x.setSheet(1, 1, 1), 7);
        x.fold(0, 0);
        Check.same("3 flip and move", x.costOf(1, 0), 64);
        Check.same("3 flip, turn and move", x.costOf(1, 1), 114);
        Check.error("4 the one that does not count is read, too", "beam 1 2;beam 3;beam 4 5;", 2, 15);
        Check.error("4 and its range", "sheet 61 1 1;sheet 1 1 1;", 3, 6);
    }

    private static void withoutThemTheDefaultsCount() {
        SheetFolder x = Check.folder("sheet 1 2 3;beam 1 2;table 3 4;wing 5 6;gauge 7 8;flange 9;cost 4 5 6;back 1 1;");
        Check.load(x, "leg 50;up 40;down 50;");
        int[][] due = {{300, 600}, {300, 600}, {200, 400}, {0, 9999}, {0}};
        for (int tool = 0; tool < 5; tool++) {
            for (int what = 0; what < due[tool].length; what++) {
                Check.same("3 default of tool " + tool, x.tool(tool, what), due[tool][what]);
            }
        }
        Check.sameDouble("3 default of the sheet", x.deduction(), 2.0 * (10 + 10) - 1.5708 * (10 + 40 / 100.0 * 10));
        Check.sameDouble("3 default ratio", x.ratio(), 10.0);
        Check.sameDouble("3 no back statement", x.springBack(), 0.0);
        Check.sameDouble("3 no back statement", x.springBackFor(9999.0), 0.0);
        x.fold(0, 0);
        Check.same("3 default costs", x.costOf(1, 1), 2);
        Check.same("3 default costs", x.costOf(1, 0), 2);
        x.undo();
        x.fold(1, 0);
        Check.same("3 default costs", x.costOf(0, 1), 3);
        Check.same("3 default flip", x.setCost(0, 0, 0), 1);
        Check.same("3 default thickness", x.setSheet(1, 1, 1), 10);
    }

    private static void theErrorIsTheFirstToken() {
        Check.error("4 the first of three", "leg 0;oops;?", 3, 4);
        Check.error("4 the first of three", "oops;leg 0;?", 2, 0);
        Check.error("4 the first of three", "? leg 0;oops;", 1, 0);
        Check.error("4 in one statement", "sheet 0 201 101;", 3, 6);
        Check.error("4 in one statement", "sheet 1 201 101;", 3, 8);
        Check.error("4 a later one is smaller", "up 5;?", 4, 0);
        Check.error("4 a wrong number ahead of a missing semicolon", "leg 0", 3, 4);
        Check.error("4 right statements ahead", "leg 5;up 6;beam 1 2;down 7;wing 3;", 2, 33);
    }

    private static void aTokenIsRightEvenIfNoneCanFollow() {
        Check.error("4 no ratio is left", "back 999 0;back", 2, 15);
        Check.error("4 no ratio is left", "back 999 0;back 999", 3, 16);
        Check.error("4 no ratio is left", "back 999 0;back 1000 0;", 3, 16);
        Check.error("4 no ratio is left", "back 999 0;back;", 2, 15);
        Check.error("4 no byte is left", " ".repeat(597) + "leg", 2, 600);
        Check.legal("3 a most is left", "gauge 9999 9999;", 0);
    }

    private static void aTextThatEndsTooEarly() {
        for (String statement : STATEMENTS) {
            String text = ahead(statement) + statement + " ";
            int from = text.length() - statement.length() - 1;
            for (int end = from + 1; end <= text.length(); end++) {
                boolean isWordCut = end < text.length() && text.charAt(end) >= 'a' && text.charAt(end) <= 'z';
                Check.error("4 cut", text.substring(0, end), 2, isWordCut ? from : end);
            }
            Check.error("5 cut, with blanks", text + "\n \n", 2, text.length() + 3);
        }
        Check.legal("3 an empty text does not end too early", "", 0);
        Check.legal("3 nor do blanks", "\n", 0);
    }

    private static void ofTwoKindsTheSmallerOne() {
        Check.error("4 1 and 2: illegal where a word was expected", "?", 1, 0);
        Check.error("4 1 and 2: where a number was expected", "leg ?", 1, 4);
        Check.error("4 1 and 2: where a semicolon was expected", "leg 5 ?", 1, 6);
        Check.error("4 1 and 3: five digits, out of range", "leg 99999;", 1, 4);
        Check.error("4 2 and 3: a number for a word", "0", 2, 0);
        Check.error("4 2 and 3: a number for a semicolon", "sheet 1 1 1 999;", 2, 12);
        Check.error("4 2 and 4: a second leg for a number", "leg 5;up leg", 2, 9);
        Check.error("4 2 and 4: a second leg for a semicolon", "leg 5;up 5 leg", 2, 11);
        Check.error("4 2 and 4: up without a leg for a number", "beam up", 2, 5);
        Check.error("4 2 and 4: down without a leg for a semicolon", "flange 5 down", 2, 9);
        Check.error("4 2 and 5: a ninth bend for a number", EIGHT_BENDS + "beam up", 2, EIGHT_BENDS.length() + 5);
        Check.error("4 2 and 5: a ninth bend for a semicolon", EIGHT_BENDS + "flange 5 up", 2, EIGHT_BENDS.length() + 9);
        Check.error("4 2 and 5: a ninth back for a number", EIGHT_BACKS + "beam back", 2, EIGHT_BACKS.length() + 5);
        Check.error("4 4 alone, with eight bends", EIGHT_BENDS + "leg 5;", 4, EIGHT_BENDS.length());
        Check.error("4 4 alone, with eight backs", EIGHT_BACKS + "up 5;", 4, EIGHT_BACKS.length());
    }

    private static void theErrorOfTheLatestLoad() {
        SheetFolder x = new SheetFolder();
        int[][] due = {{0, -1}, {1, 0}, {2, 3}, {3, 4}, {4, 0}, {0, -1}, {5, EIGHT_BENDS.length()}, {0, -1}};
        String[] texts = {"", "?", "leg", "leg 0;", "up 1;", "leg 1;", EIGHT_BENDS + "up", " "};
        for (int i = 0; i < texts.length; i++) {
            Check.load(x, texts[i]);
            Check.argument("4 a load that throws", () -> x.load(1));
            Check.same("4 load " + i, x.errorKind(), due[i][0]);
            Check.same("5 load " + i, x.errorPosition(), due[i][1]);
            x.feed(0, 0, 0, 0, 0);
            Check.argument("4 a load that throws", () -> x.load(21));
            Check.argument("4 a load that throws", () -> x.load(-1));
            Check.same("4 load " + i + ", again", x.errorKind(), due[i][0]);
            Check.same("5 load " + i + ", again", x.errorPosition(), due[i][1]);
            x.load(20);
            Check.same("4 the bytes 0", x.errorKind(), 1);
            Check.same("5 the bytes 0", x.errorPosition(), 0);
        }
    }

    private static SheetFolder used() {
        SheetFolder x = Check.folder("leg 50;up 60;down 70;up 20;beam 5 5;back 3 9;back 12 18;cost 4 5 6;sheet 2 3 4;");
        x.setLeg(2, 71);
        x.setTool(2, 5, 6);
        x.fold(0, 1);
        x.foldNext();
        x.write();
        return x;
    }

    private static void anIllegalTextEmptiesTheBufferAlone() {
        // What is legal, and what is illegal behind it.
        String[][] texts = {
            {"leg 7;up 8;", "?"},
            {"sheet 5 5 5;beam 9 9;leg 3;up 4;back 1 1;cost 9 9 9;", "oops"},
            {"leg 9;up 9;", "flange"},
            {"flange 9;gauge 5 9;", "leg 0;"},
            {"table 9 9;wing 9 9;", "up 1;"},
            {EIGHT_BACKS + "wing 9 9;", EIGHT_BENDS + "up 1;"},
        };
        for (String[] text : texts) {
            SheetFolder x = used();
            SheetFolder twin = used();
            Check.same("3 illegal", Check.load(x, text[0] + text[1]), SheetFolder.BAD_TEXT);
            Check.same("3 illegal", Check.load(twin, " ".repeat(text[0].length()) + text[1]), SheetFolder.BAD_TEXT);
            Check.sameText("3 all but the buffer stays", Check.story(x), Check.story(twin));
            SheetFolder y = used();
            String before = Check.picture(y);
            Check.load(y, text[0] + text[1]);
            Check.sameText("3 all but the buffer stays", Check.picture(y), before);
            Check.argument("3 the buffer is empty", () -> y.load(1));
            Check.same("3 the buffer is empty", y.feed(0, 0, 0, 0, 0), 20);
            Check.same("3 the edits stay", y.undo(), 3);
        }
    }

    private static void aLegalTextMakesNoBendAndForgetsTheEdits() {
        String text = "leg 50;up 60;beam 1 1;";
        SheetFolder x = Check.folder(text);
        for (int edit = 0; edit < 12; edit++) {
            x.setCost(edit, 0, 0);
        }
        x.fold(0, 0);
        Check.same("3 the same text again", Check.load(x, text), 1);
        Check.same("3 no bend is made", x.made(), 0);
        Check.same("3 no step", x.steps(), 0);
        Check.same("3 no cost", x.costSoFar(), 0);
        Check.same("3 no edit", x.undo(), SheetFolder.NONE);
        Check.same("3 the costs of the text", x.setCost(1, 1, 1), 1);
        Check.same("3 edits are remembered again", x.undo(), 0);
        SheetFolder y = used();
        Check.load(y, text);
        y.write();
        SheetFolder twin = Check.folder(text);
        twin.write();
        Check.sameText("3 nothing is left of the text before", Check.story(y), Check.story(twin));
    }

    /** All places of legs, and the spring-back for some ratios; some 400 calls for eight bends. */
    private static String places(SheetFolder x) {
        StringBuilder all = new StringBuilder();
        all.append(x.finishedWidth()).append('x').append(x.finishedHeight()).append(x.isFinishedCrossed());
        all.append(x.isSymmetric()).append(x.longestLeg()).append(' ').append(x.possible());
        int bends = x.bends();
        int legs = x.legs();
        for (int leg = 0; leg < legs; leg++) {
            all.append(' ').append(x.finishedCorner(leg, 0)).append('/').append(x.finishedCorner(leg, 1));
        }
        for (int code = 0; code < 2 * bends; code++) {
            int bend = code >> 1;
            int side = code & 1;
            all.append(" step ").append(x.gauge(bend, side)).append(' ').append(x.top(bend, side));
            all.append(' ').append(x.hitting(bend, side)).append(' ').append(x.reason(bend, side));
            for (int leg = 0; leg < legs; leg++) {
                all.append(' ').append(x.corner(bend, side, leg, 0)).append('/').append(x.corner(bend, side, leg, 1));
            }
        }
        for (double ratio : new double[] {0.0, 1.5, 2.5, 4.5, 10.0, 600.0, 9999.0}) {
            all.append(' ').append(x.springBackFor(ratio));
        }
        return all.toString();
    }

    private static void nothingIsLeftOfALongerText() {
        String longest = "leg 9;up 8;down 900;up 800;down 700;up 600;down 50;up 40;down 3000;back 1 1;back 2 300;back 3 4;"
                + "back 4 290;back 5 6;back 6 280;back 500 8;back 999 270;flange 1;gauge 5 9000;";
        String[] shorter = {"", "leg 5;", "leg 9;up 8;", "leg 6;down 7;back 1 1;", "leg 9;up 8;down 900;back 1 1;back 2 300;"};
        for (String text : shorter) {
            SheetFolder x = Check.folder(longest);
            places(x);
            Check.load(x, text);
            Check.sameText("3 of \"" + text + "\" behind a longer one", places(x), places(Check.folder(text)));
            SheetFolder y = Check.folder(text);
            places(y);
            Check.load(y, longest);
            Check.sameText("3 the longest behind \"" + text + "\"", places(y), places(Check.folder(longest)));
        }
    }
}
