/** Promises 17 to 19: matrices, what they mean, places, and the limits to the last one that is allowed. */
public final class RelateTest {
    private static final String SQUARE = "POLYGON ((0 0, 10 0, 10 10, 0 10, 0 0))";

    public static void main(String[] args) {
        matrices();
        meanings();
        places();
        exceptions();
        limits();
        Bench.close("RelateTest");
    }

    /** The matrix as nine signs, F where there is none. */
    private static void due(String one, String two, String want) {
        ShapeWorkshop shop = Bench.with(one, two);
        int value = shop.relate(0, 1);
        StringBuilder got = new StringBuilder();
        for (int at = 8; at >= 0; at--) {
            got.append("F012".charAt(value >> 2 * at & 3));
        }
        Bench.due("relate " + one + " / " + two, got.toString(), want);
        Bench.holds("nothing above", value < 1 << 18);
    }

    private static void matrices() {
        due(SQUARE, "POLYGON ((5 5, 15 5, 15 15, 5 15, 5 5))", "212101212");
        due(SQUARE, SQUARE, "2FFF1FFF2");
        due(SQUARE, "POLYGON ((2 2, 4 2, 4 4, 2 2))", "212FF1FF2");
        due(SQUARE, "POLYGON ((10 0, 20 0, 20 10, 10 10, 10 0))", "FF2F11212");
        due(SQUARE, "POLYGON ((10 10, 20 10, 20 20, 10 10))", "FF2F01212");
        due(SQUARE, "POLYGON ((11 11, 20 11, 20 20, 11 11))", "FF2FF1212");
        due(SQUARE, "POINT (5 5)", "0F2FF1FF2");
        due(SQUARE, "POINT (10 5)", "FF20F1FF2");
        due(SQUARE, "POINT (11 5)", "FF2FF10F2");
        due(SQUARE, "MULTIPOINT (5 5, 10 10, 11 11)", "0F20F10F2");
        due(SQUARE, "LINESTRING (-5 5, 15 5)", "1F20F1102");
        due(SQUARE, "LINESTRING (0 0, 10 0)", "FF2101FF2");
        due(SQUARE, "LINESTRING (2 2, 10 5)", "102F01FF2");
        due(SQUARE, "LINESTRING (2 2, 4 4, 4 2, 2 2)", "1F2FF1FF2");
        due("LINESTRING (0 0, 10 10)", "LINESTRING (0 10, 10 0)", "0F1FF0102");
        due("LINESTRING (0 0, 10 10)", "LINESTRING (5 5, 10 0)", "F01FF0102");
        due("LINESTRING (0 0, 10 10)", "LINESTRING (10 10, 20 0)", "FF1F00102");
        due("LINESTRING (0 0, 10 10)", "LINESTRING (5 5, 20 20)", "1010F0102");
        due("LINESTRING (0 0, 10 10)", "LINESTRING (10 10, 0 0)", "1FFF0FFF2");
        // crossings that are no whole numbers
        due("LINESTRING (0 0, 3 1)", "LINESTRING (0 1, 3 0)", "0F1FF0102");
        // a ring of lines has no rim, nor has a place where two parts end; where three end it has
        due("LINESTRING (0 0, 5 0, 5 5, 0 0)", "POINT (0 0)", "0F1FFFFF2");
        due("MULTILINESTRING ((0 0, 5 0), (5 0, 5 5))", "POINT (5 0)", "0F1FF0FF2");
        due("MULTILINESTRING ((0 0, 5 0), (5 0, 5 5), (5 0, 9 0))", "POINT (5 0)", "FF10F0FF2");
        due("MULTILINESTRING ((0 0, 9 0), (5 0, 5 5))", "POINT (5 0)", "FF10F0FF2");
        due("MULTILINESTRING ((0 0, 9 0), (5 0))", "POINT (5 0)", "0F1FF0FF2");
        due("LINESTRING (5 5)", "POINT (5 5)", "FFFFFF0F2");
        due("LINESTRING (5 5, 5 5)", "POINT (5 5)", "FFFFFF0F2");
        due("POINT (1 1)", "POINT (1 1)", "0FFFFFFF2");
        due("MULTIPOINT (1 1, 2 2)", "MULTIPOINT (2 2, 3 3)", "0F0FFF0F2");
        due("POINT EMPTY", "POLYGON EMPTY", "FFFFFFFF2");
        due("POINT EMPTY", SQUARE, "FFFFFF212");
        // an area whose parts cancel each other, and one that is a line there and back
        due("MULTIPOLYGON (((0 0, 10 0, 10 10, 0 10, 0 0)), ((5 0, 15 0, 15 10, 5 10, 5 0)))", "POINT (7 5)",
                "FF2FF10F2");
        due("POLYGON ((0 0, 10 0, 0 0))", "LINESTRING (0 0, 10 0)", "FFF10FFF2");
        due("POLYGON ((0 0, 10 0, 10 10))", SQUARE, "2FF11F212");
        due("POLYGON ((5 5))", "POINT (5 5)", "FFFFFF0F2");
        due("POLYGON ((0 0, 9 0, 9 9, 0 9, 0 0), (3 3, 6 3, 6 6, 3 6, 3 3))", "POINT (4 4)", "FF2FF10F2");
        due("POLYGON ((-500000000 -500000000, 500000000 499999999, 500000000 500000000, -500000000 -500000000))",
                "LINESTRING (-500000000 500000000, 500000000 -500000000)", "1F20F1102");
    }

    private static void areDue(String one, String two, String want) {
        ShapeWorkshop shop = Bench.with(one, two);
        StringBuilder got = new StringBuilder();
        for (int what = 0; what < 9; what++) {
            got.append(shop.is(what, 0, 1) ? what : "-");
        }
        Bench.due("are " + one + " / " + two, got.toString(), want);
    }

    private static void meanings() {
        areDue(SQUARE, SQUARE, "0---45-78");
        areDue(SQUARE, "POLYGON ((5 5, 15 5, 15 15, 5 15, 5 5))", "------6--");
        areDue(SQUARE, "POLYGON ((10 0, 20 0, 20 10, 10 10, 10 0))", "--2------");
        areDue(SQUARE, "POLYGON ((11 11, 20 11, 20 20, 11 11))", "-1-------");
        areDue(SQUARE, "POLYGON ((0 0, 4 0, 4 4, 0 0))", "-----5--8");
        areDue("POLYGON ((0 0, 4 0, 4 4, 0 0))", SQUARE, "----4--7-");
        areDue("LINESTRING (0 0, 10 0)", SQUARE, "--2----7-");
        areDue(SQUARE, "LINESTRING (0 0, 10 0)", "--2-----8");
        areDue("LINESTRING (-5 5, 15 5)", SQUARE, "---3-----");
        areDue(SQUARE, "LINESTRING (-5 5, 15 5)", "---3-----");
        areDue("LINESTRING (0 0, 4 4)", "LINESTRING (0 4, 4 0)", "---3-----");
        areDue("LINESTRING (0 0, 4 4)", "LINESTRING (2 2, 6 6)", "------6--");
        areDue("MULTIPOINT (1 1, 2 2)", "MULTIPOINT (2 2, 3 3)", "------6--");
        areDue("MULTIPOINT (1 1, 20 2)", SQUARE, "---3-----");
        areDue(SQUARE, "MULTIPOINT (1 1, 20 2)", "---3-----");
        areDue("POINT EMPTY", "POLYGON EMPTY", "01-------");
        areDue("POINT EMPTY", "POINT (1 1)", "-1-------");
        areDue("POLYGON ((0 0, 10 0, 0 0))", "POLYGON ((0 0, 5 5, 0 0))", "0-2------");
        areDue("POLYGON ((0 0, 10 0, 0 0))", SQUARE, "--2----7-");
        // a line whose inside is all on the rim of an area that has no inside, and the other way round
        areDue("LINESTRING (0 0, 5 0)", "POLYGON ((0 0, 10 0, 0 0))", "--2----7-");
        areDue("POLYGON ((0 0, 10 0, 0 0))", "LINESTRING (0 0, 5 0)", "--2-----8");
        areDue("LINESTRING (0 0, 10 0, 0 0)", "POLYGON ((0 0, 10 0, 0 0))", "--2----78");
        areDue("POINT (5 0)", "POLYGON ((0 0, 10 0, 0 0))", "--2----7-");
        areDue("POINT (5 0)", "LINESTRING (5 0, 9 0)", "--2----7-");
        areDue("POINT (6 0)", "LINESTRING (5 0, 9 0)", "----4--7-");
        areDue("LINESTRING (5 5, 5 5)", "POLYGON ((0 0, 10 0, 0 0))", "01-------");
    }

    private static void placeDue(String text, int x, int y, int want) {
        Bench.due("locate " + text + " " + x + " " + y, Bench.with(text).locate(0, x, y), want);
    }

    private static void places() {
        placeDue(SQUARE, 5, 5, 0);
        placeDue(SQUARE, 10, 5, 1);
        placeDue(SQUARE, 0, 0, 1);
        placeDue(SQUARE, 11, 10, 2);
        placeDue(SQUARE, -1, 10, 2);
        placeDue("POLYGON ((0 0, 10 0, 10 10))", 5, 5, 1);
        placeDue("POLYGON ((0 0, 9 0, 9 9, 0 9, 0 0), (3 3, 6 3, 6 6, 3 6, 3 3))", 4, 4, 2);
        placeDue("LINESTRING (0 0, 4 4, 8 0)", 4, 4, 0);
        placeDue("LINESTRING (0 0, 4 4, 8 0)", 8, 0, 1);
        placeDue("LINESTRING (0 0, 4 4, 8 0)", 4, 0, 2);
        placeDue("MULTILINESTRING ((0 0, 4 4), EMPTY, (4 4, 8 0))", 4, 4, 0);
        placeDue("LINESTRING (3 3)", 3, 3, 2);
        placeDue("LINESTRING EMPTY", 3, 3, 2);
        placeDue("MULTIPOINT (3 3, EMPTY)", 3, 3, 0);
        placeDue("MULTIPOINT (3 3, EMPTY)", 3, 4, 2);
        placeDue("POINT EMPTY", 0, 0, 2);
        placeDue("POLYGON ((-500000000 -500000000, 500000000 499999999, 500000000 500000000))", 1, 0, 2);
        placeDue("POLYGON ((-500000000 -500000000, 500000000 499999999, 500000000 500000000))", 0, 0, 1);
        placeDue("POLYGON ((-500000000 -500000000, 500000000 499999999, 500000000 500000000))", 499999999, 499999999,
                1);
        placeDue("POLYGON ((-500000000 -500000000, 500000000 499999998, 500000000 500000000))", 499999999, 499999998,
                0);
    }

    private static void exceptions() {
        ShapeWorkshop shop = Bench.with(SQUARE, "GEOMETRYCOLLECTION (POINT (1 1))", "POINT (500000001 0)",
                "LINESTRING (0 0, 0 -500000001)");
        for (int wrong = 1; wrong < 4; wrong++) {
            int w = wrong;
            Bench.outcomeDue("relate with " + w, () -> shop.relate(0, w), Bench.ARGUMENT);
            Bench.outcomeDue("relate " + w, () -> shop.relate(w, 0), Bench.ARGUMENT);
            Bench.outcomeDue("is with " + w, () -> shop.is(1, 0, w) ? 1 : 0, Bench.ARGUMENT);
            Bench.outcomeDue("is " + w, () -> shop.is(1, w, 0) ? 1 : 0, Bench.ARGUMENT);
            Bench.outcomeDue("locate " + w, () -> shop.locate(w, 0, 0), Bench.ARGUMENT);
        }
        for (int what : new int[] {-1, 9, Integer.MIN_VALUE, Integer.MAX_VALUE}) {
            Bench.outcomeDue("is " + what, () -> shop.is(what, 0, 0) ? 1 : 0, Bench.ARGUMENT);
            Bench.outcomeDue("is " + what + " of none", () -> shop.is(what, 0, 9) ? 1 : 0, Bench.STATE);
        }
        Bench.outcomeDue("relate none", () -> shop.relate(9, 0), Bench.STATE);
        Bench.outcomeDue("relate with none", () -> shop.relate(1, 9), Bench.STATE);
        Bench.outcomeDue("locate none", () -> shop.locate(9, 500000001, 0), Bench.STATE);
        for (int far : new int[] {500000001, -500000001, Integer.MIN_VALUE, Integer.MAX_VALUE}) {
            Bench.outcomeDue("locate x", () -> shop.locate(0, far, 0), Bench.ARGUMENT);
            Bench.outcomeDue("locate y", () -> shop.locate(0, 0, far), Bench.ARGUMENT);
        }
        Bench.due("locate far", shop.locate(0, 500000000, -500000000), 2);
        for (int slot : new int[] {-1, 32, Integer.MIN_VALUE, Integer.MAX_VALUE}) {
            Bench.outcomeDue("relate", () -> shop.relate(slot, 9), Bench.INDEX);
            Bench.outcomeDue("relate", () -> shop.relate(9, slot), Bench.INDEX);
            Bench.outcomeDue("is", () -> shop.is(99, slot, 9) ? 1 : 0, Bench.INDEX);
            Bench.outcomeDue("is", () -> shop.is(99, 9, slot) ? 1 : 0, Bench.INDEX);
            Bench.outcomeDue("locate", () -> shop.locate(slot, 500000001, 0), Bench.INDEX);
        }
    }

    /** Lines far apart, of two points each. */
    private static String lines(int n, int y) {
        StringBuilder text = new StringBuilder("MULTILINESTRING (");
        for (int i = 0; i < n; i++) {
            text.append(i > 0 ? "," : "").append("(").append(3 * i).append(' ').append(y).append(',')
                    .append(3 * i + 1).append(' ').append(y).append(")");
        }
        return text + ")";
    }

    /** So many lines one way and so many another way: each crosses each of the others. */
    private static String grid(int n, int m, int more) {
        StringBuilder text = new StringBuilder("MULTILINESTRING (");
        for (int i = 0; i < n + m; i++) {
            text.append(i > 0 ? "," : "").append(i < n ? "(" + i + " -1," + i + " 99)"
                    : "(-1 " + (i - n) + ",99 " + (i - n) + ")");
        }
        for (int i = 0; i < more; i++) {
            text.append(",(").append(200 + i).append(" 0,").append(201 + i).append(" 0)");
        }
        return text + ")";
    }

    private static String rings(int n) {
        StringBuilder text = new StringBuilder("POLYGON (");
        for (int i = 0; i < n; i++) {
            text.append(i > 0 ? "," : "").append("(0 0)");
        }
        return text + ")";
    }

    private static void limits() {
        ShapeWorkshop shop = Bench.with(lines(128, 0), lines(128, 5), lines(129, 5), lines(128, 9));
        Bench.due("256 segments", shop.relate(0, 1), shop.relate(0, 3));
        Bench.outcomeDue("257 segments", () -> shop.relate(0, 2), Bench.TOO_MUCH);
        Bench.outcomeDue("257 segments", () -> shop.is(1, 0, 2) ? 1 : 0, Bench.TOO_MUCH);
        Bench.outcomeDue("258 segments of one slot twice", () -> shop.relate(2, 2), Bench.TOO_MUCH);
        Bench.due("locate has no such limit", shop.locate(2, 3, 5), 1);
        // points without length between them make none
        Bench.put(shop, 4, lines(128, 0).replace("))", "), (5 5, 5 5), (1 1))"));
        Bench.due("256 segments and two parts", shop.relate(4, 1), shop.relate(0, 1));
        // 32 * 32 pairs; with more lines in a row one more pair each
        ShapeWorkshop other = Bench.with(grid(32, 32, 1), "POINT (0 0)", grid(32, 32, 2), grid(16, 16, 0));
        Bench.due("1024 pairs", other.locate(0, 0, 0), 0);
        Bench.outcomeDue("1024 pairs", () -> other.is(8, 0, 1) ? 1 : 0, "1");
        Bench.outcomeDue("1025 pairs", () -> other.is(8, 2, 1) ? 1 : 0, Bench.TOO_MUCH);
        Bench.outcomeDue("1025 pairs", () -> other.relate(1, 2), Bench.TOO_MUCH);
        Bench.outcomeDue("4 * 256 pairs and 32 of a line with itself", () -> other.relate(3, 3), Bench.TOO_MUCH);
        ShapeWorkshop parts = Bench.with(rings(1024), rings(1025), "POINT (0 0)", rings(1025).replace("POLYGON (",
                "MULTIPOLYGON ((") + ")");
        // no segments: the point alone is there, outside of the area
        Bench.due("1024 parts", parts.relate(0, 2), 4 * 4 + 3);
        Bench.due("1024 parts", parts.locate(0, 0, 0), 2);
        for (int slot : new int[] {1, 3}) {
            Bench.outcomeDue("1025 parts", () -> parts.relate(slot, 2), Bench.TOO_MUCH);
            Bench.outcomeDue("1025 parts", () -> parts.relate(2, slot), Bench.TOO_MUCH);
            Bench.outcomeDue("1025 parts", () -> parts.is(0, 2, slot) ? 1 : 0, Bench.TOO_MUCH);
            Bench.outcomeDue("1025 parts", () -> parts.locate(slot, 0, 0), Bench.TOO_MUCH);
            Bench.outcomeDue("1025 parts, x", () -> parts.locate(slot, 500000001, 0), Bench.ARGUMENT);
            Bench.outcomeDue("1025 parts, is 9", () -> parts.is(9, 2, slot) ? 1 : 0, Bench.ARGUMENT);
        }
    }
}
