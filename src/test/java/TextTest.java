/** Promises 1 to 5: a new object, feed, load, errorKind, errorPosition. */
public final class TextTest {
    public static void main(String[] args) {
        newObject();
        feeding();
        loading();
        illegalTokens();
        otherTokens();
        ranges();
        order();
        counts();
        ends();
        badTextChangesNothing();
        Check.end();
    }

    private static void newObject() {
        SheetFolder x = new SheetFolder();
        Check.same("1 legs", x.legs(), 0);
        Check.same("1 bends", x.bends(), 0);
        Check.same("1 errorKind", x.errorKind(), 0);
        Check.same("1 errorPosition", x.errorPosition(), SheetFolder.NONE);
        Check.same("1 beam depth", x.tool(0, 0), 300);
        Check.same("1 beam height", x.tool(0, 1), 600);
        Check.same("1 table depth", x.tool(1, 0), 300);
        Check.same("1 table height", x.tool(1, 1), 600);
        Check.same("1 wing depth", x.tool(2, 0), 200);
        Check.same("1 wing height", x.tool(2, 1), 400);
        Check.same("1 gauge least", x.tool(3, 0), 0);
        Check.same("1 gauge most", x.tool(3, 1), 9999);
        Check.same("1 flange", x.tool(4, 0), 0);
        Check.sameDouble("1 deduction", x.deduction(), 2.0 * 20 - 1.5708 * (10 + 0.4 * 10));
        Check.sameDouble("1 ratio", x.ratio(), 10.0);
        Check.same("1 thickness", x.setSheet(10, 10, 40), 10);
        Check.same("1 flip", x.setCost(1, 1, 1), 1);
        SheetFolder y = Check.folder("leg 50;up 40;up 50;");
        y.fold(0, 0);
        Check.same("1 turn", y.costOf(1, 1), 1);
        Check.same("1 move", y.costOf(1, 0), 1);
        Check.argument("1 empty buffer", () -> new SheetFolder().load(1));
        Check.same("1 empty text", new SheetFolder().load(0), 0);
        Check.same("constants", SheetFolder.NONE * 100 + SheetFolder.FULL * 10 + SheetFolder.BAD_TEXT, -123);
    }

    private static void feeding() {
        SheetFolder x = new SheetFolder();
        for (int i = 1; i <= 30; i++) {
            Check.same("2 feed " + i, x.feed(0x20202020, 0x20202020, 0x20202020, 0x20202020, 0x20202020), 20 * i);
        }
        Check.same("2 feed 31", x.feed(0, 0, 0, 0, 0), SheetFolder.FULL);
        Check.same("2 nothing appended", x.load(600), 0);
        Check.same("2 feed again", x.feed(0x6C656720, 0x373B7570, 0x383B646F, 0x776E393B, 0x0A0A0A20), 20);
        Check.same("2 the order of the bytes", x.load(20), 2);
        Check.same("2 leg 0", x.leg(0), 7);
        Check.same("2 leg 1", x.leg(1), 8);
        Check.same("2 leg 2", x.leg(2), 9);
        Check.error("2 bytes above 127", "leg 5;" + (char) 233, 1, 6);
        Check.error("2 the byte 255", "" + (char) 255, 1, 0);
    }

    private static void loading() {
        SheetFolder x = new SheetFolder();
        Check.feed(x, "leg 5;up 6;         ");
        Check.argument("3 length -1", () -> x.load(-1));
        Check.argument("3 length 21", () -> x.load(21));
        Check.argument("3 length MIN", () -> x.load(Integer.MIN_VALUE));
        Check.argument("3 length MAX", () -> x.load(Integer.MAX_VALUE));
        Check.same("3 the buffer kept its bytes", x.load(11), 1);
        Check.argument("3 the buffer is empty then", () -> x.load(1));
        Check.feed(x, "leg 5;");
        Check.same("3 less than the buffer", x.load(5), SheetFolder.BAD_TEXT);
        Check.same("4 kind", x.errorKind(), 2);
        Check.same("5 position", x.errorPosition(), 5);
        Check.argument("3 empty behind a bad text", () -> x.load(1));
        Check.same("4 a throwing load changes no kind", x.errorKind(), 2);
        Check.same("5 a throwing load changes no position", x.errorPosition(), 5);
        Check.same("3 legs stay", x.legs(), 2);
        x.fold(0, 0);
        Check.same("3 legal", Check.load(x, "leg 5;up 6;"), 1);
        Check.same("3 no bend is made", x.made() + x.steps(), 0);
        Check.same("3 forgets the edits", x.undo(), SheetFolder.NONE);
        Check.same("4 no error", x.errorKind(), 0);
        Check.same("5 no error", x.errorPosition(), SheetFolder.NONE);
        Check.same("3 an empty text", x.load(0), 0);
        Check.same("3 no legs", x.legs(), 0);
        SheetFolder y = Check.folder("\n \nleg5;up6;down\n7 ; beam1 2;beam 3 4;sheet 2 3 4;sheet 5 6 7;cost 1 2 3 ; cost 4 5 6;");
        Check.same("3 spaces are not needed", y.legs(), 3);
        Check.same("3 the last beam counts", y.tool(0, 0) * 10 + y.tool(0, 1), 34);
        Check.same("3 the last cost counts", y.setCost(0, 0, 0), 4);
        Check.sameDouble("3 the last sheet counts", y.ratio(), 12.0);
        Check.load(y, "table 5 6;wing 7 8;gauge 9 10;flange 11;");
        Check.same("3 defaults again", y.tool(0, 0), 300);
        Check.same("3 table", y.tool(1, 0) * 100 + y.tool(1, 1), 506);
        Check.same("3 wing", y.tool(2, 0) * 100 + y.tool(2, 1), 708);
        Check.same("3 gauge", y.tool(3, 0) * 100 + y.tool(3, 1), 910);
        Check.same("3 flange", y.tool(4, 0), 11);
        Check.same("3 leading zeros", Check.load(y, "leg 0007;beam 0000 0;"), 0);
        Check.same("3 leg with zeros", y.leg(0), 7);
    }

    private static void illegalTokens() {
        Check.error("4", "flanges 5;", 1, 0);
        Check.error("4", "leg 5;   abcdefg", 1, 9);
        Check.error("4", "leg 00005;", 1, 4);
        Check.error("4", "leg 12345678901234567890;", 1, 4);
        Check.error("4", "leg 5,", 1, 5);
        Check.error("4", "legA 5;", 1, 3);
        Check.error("4", "Leg 5;", 1, 0);
        Check.error("4", "leg\t5;", 1, 3);
        Check.error("4", "leg\r5;", 1, 3);
        Check.error("4", "leg 5;\0", 1, 6);
        Check.error("4", "leg `;", 1, 4);
        Check.error("4", "leg {;", 1, 4);
        Check.error("4", "leg /;", 1, 4);
        Check.error("4", "leg :;", 1, 4);
        Check.error("4", "leg -5;", 1, 4);
        Check.error("4", "leg 5;leg 55555", 4, 6);
        Check.error("4", "up abcdefg", 4, 0);
    }

    private static void otherTokens() {
        Check.error("4", "legs 5;", 2, 0);
        Check.error("4", "le 5;", 2, 0);
        Check.error("4", "keg 5;", 2, 0);
        Check.error("4", "azza 5;", 2, 0);
        Check.error("4", "flang 5;", 2, 0);
        Check.error("4", "5;", 2, 0);
        Check.error("4", ";", 2, 0);
        Check.error("4", "leg 5;;", 2, 6);
        Check.error("4", "leg leg 5;", 2, 4);
        Check.error("4", "leg ;", 2, 4);
        Check.error("4", "leg 5 6;", 2, 6);
        Check.error("4", "leg 5 up 6;", 2, 6);
        Check.error("4", "sheet 1 2;", 2, 9);
        Check.error("4", "sheet 1 2 3 4;", 2, 12);
        Check.error("4", "flange 5 0;", 2, 9);
        Check.error("4", "beam 5 6 7;", 2, 9);
        Check.error("4", "cost 5 6;", 2, 8);
        Check.error("4", "back 5;", 2, 6);
        Check.error("4", "cost cost", 2, 5);
    }

    private static void ranges() {
        Check.error("4", "leg 0;", 3, 4);
        Check.error("4", "leg 1;up 0;", 3, 9);
        Check.error("4", "leg 1;down 0000;", 3, 11);
        Check.error("4", "sheet 0 1 1;", 3, 6);
        Check.error("4", "sheet 61 1 1;", 3, 6);
        Check.error("4", "sheet 1 201 1;", 3, 8);
        Check.error("4", "sheet 1 1 101;", 3, 10);
        Check.error("4", "back 1000 5;", 3, 5);
        Check.error("4", "back 0 301;", 3, 7);
        Check.error("4", "back 5 0;back 5 0;", 3, 14);
        Check.error("4", "back 5 0;back 4 0;", 3, 14);
        Check.error("4", "back 999 0;back 999 0;", 3, 16);
        Check.error("4", "gauge 5 4;", 3, 8);
        Check.error("4", "cost 100 0 0;", 3, 5);
        Check.error("4", "cost 0 100 0;", 3, 7);
        Check.error("4", "cost 0 0 100;", 3, 9);
        SheetFolder x = Check.folder("sheet 60 200 100;leg 9999;up 9999;down 1;back 0 300;back 1 0;back 999 300;"
                + "beam 9999 0;table 0 9999;wing 9999 9999;gauge 9999 9999;gauge 0 0;flange 9999;cost 99 99 99;");
        Check.same("3 the greatest numbers", x.legs(), 3);
        Check.same("3 the least numbers", Check.load(x, "sheet 1 0 0;leg 1;cost 0 0 0;flange 0;"), 0);
    }

    private static void order() {
        Check.error("4", "up 5;", 4, 0);
        Check.error("4", " down 5;leg 5;", 4, 1);
        Check.error("4", "leg 5;up 5;leg 5;", 4, 11);
        Check.error("4", "up 0", 4, 0);
        Check.folder("beam 1 1;leg 5;back 5 5;up 5;");
    }

    private static void counts() {
        String eight = "leg 1;up1;up1;up1;up1;up1;up1;up1;down1;";
        Check.same("3 eight bends", Check.load(new SheetFolder(), eight), 8);
        Check.error("4", eight + "up 1;", 5, eight.length());
        Check.error("4", eight + "down", 5, eight.length());
        Check.error("4", eight + "leg", 4, eight.length());
        StringBuilder backs = new StringBuilder();
        for (int i = 0; i < 8; i++) {
            backs.append("back ").append(i).append(" 0;");
        }
        Check.same("3 eight backs", Check.load(new SheetFolder(), backs.toString()), 0);
        Check.error("4", backs + "back 999 0;", 5, backs.length());
        Check.error("4", backs + "backs", 2, backs.length());
    }

    private static void ends() {
        Check.error("4", "leg", 2, 3);
        Check.error("4", "leg ", 2, 4);
        Check.error("4", "leg 5", 2, 5);
        Check.error("4", "leg 5 \n ", 2, 8);
        Check.error("4", "sheet 1 2", 2, 9);
        Check.error("4", "leg 5;up", 2, 8);
        Check.same("3 spaces alone", Check.load(new SheetFolder(), "  \n\n  "), 0);
        String full = "leg 5;" + " ".repeat(593) + ";";
        Check.error("4", full, 2, 599);
        Check.same("3 600 bytes", Check.load(new SheetFolder(), "leg 5;" + " ".repeat(588) + "up 5;\n"), 1);
    }

    private static void badTextChangesNothing() {
        SheetFolder x = Check.folder("leg 50;up 60;down 70;beam 5 5;back 3 9;cost 4 5 6;");
        x.fold(0, 1);
        x.write();
        String before = Check.picture(x);
        Check.same("3 bad", Check.load(x, "sheet 5 5 5;beam 9 9;leg 3;up 4;oops"), SheetFolder.BAD_TEXT);
        Check.sameText("3 everything stays", Check.picture(x), before);
        Check.same("3 the output stays", x.written(0), '5');
        Check.same("3 the edits stay", x.undo(), 0);
        Check.same("3 the step is undone", x.steps(), 0);
    }
}
