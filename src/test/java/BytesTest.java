/** Promises 6, 7 and 9: bytes by their hexadecimal digits. */
public final class BytesTest {
    private static final String ONE = "3FF0000000000000";
    private static final String TWO = "4000000000000000";
    private static final String NONE = "7FF8000000000000";

    public static void main(String[] args) {
        shapes();
        faults();
        rounding();
        deepAndFull();
        writing();
        Bench.close("BytesTest");
    }

    private static byte[] bytes(String hex) {
        String digits = hex.replace(" ", "");
        byte[] bytes = new byte[digits.length() / 2];
        for (int i = 0; i < bytes.length; i++) {
            bytes[i] = (byte) Integer.parseInt(digits.substring(2 * i, 2 * i + 2), 16);
        }
        return bytes;
    }

    private static String read(int digits, String hex) {
        ShapeWorkshop shop = new ShapeWorkshop(digits);
        Bench.feedBytes(shop, bytes(hex));
        String got = Bench.readTape(shop, 7, false);
        return got.contains("@") ? got : Bench.words(shop, 7);
    }

    private static void due(String hex, String want) {
        Bench.due("bytes " + hex, read(0, hex), want);
    }

    private static void shapes() {
        due("00 00000001 " + ONE + TWO, "POINT (1 2)");
        due("01 01000000 000000000000F03F 0000000000000040", "POINT (1 2)");
        due("00 00000001 " + NONE + NONE, "POINT EMPTY");
        due("00 00000001 7FF0000000000001 FFFFFFFFFFFFFFFF", "POINT EMPTY");
        due("00 20000001 12345678 " + ONE + TWO, "POINT (1 2)");
        due("00 00000002 00000002 " + ONE + TWO + TWO + ONE, "LINESTRING (1 2, 2 1)");
        due("00 00000002 00000000", "LINESTRING EMPTY");
        due("00 00000003 00000002 00000001 " + ONE + TWO + "00000001" + TWO + TWO, "POLYGON ((1 2), (2 2))");
        due("00 00000003 00000000", "POLYGON EMPTY");
        due("00 00000004 00000002 01 01000000 000000000000F03F 0000000000000040 00 00000001 " + NONE + NONE,
                "MULTIPOINT ((1 2), EMPTY)");
        due("00 00000005 00000001 00 00000002 00000000", "MULTILINESTRING (EMPTY)");
        due("01 06000000 01000000 00 00000003 00000000", "MULTIPOLYGON (EMPTY)");
        due("00 00000007 00000002 01 07000000 00000000 00 00000001 " + ONE + ONE,
                "GEOMETRYCOLLECTION (GEOMETRYCOLLECTION EMPTY, POINT (1 1))");
    }

    private static void faults() {
        due("", "3@0");
        due("02", "1@0");
        due("FF 00000001", "1@0");
        due("00", "3@1");
        due("00 000000", "3@1");
        due("00 00000000", "2@1");
        due("00 00000008", "2@1");
        due("00 000003E8", "2@1");
        due("00 00000FA1", "2@1");
        due("00 1FFFFFFF", "2@1");
        due("00 80000008", "2@1");
        due("00 000003E9", "9@1");
        due("00 000007D1", "9@1");
        due("00 00000BB9", "9@1");
        due("00 80000001", "9@1");
        due("00 40000001", "9@1");
        due("00 C0000007", "9@1");
        due("00 20000001", "3@5");
        due("00 20000001 000000", "3@5");
        due("00 20000001 00000000", "3@9");
        due("00 00000001 " + ONE.substring(2), "3@5");
        due("00 00000001 " + ONE, "3@13");
        due("00 00000001 " + ONE + TWO.substring(2), "3@13");
        due("00 00000001 " + NONE, "4@5");
        due("00 00000001 " + NONE + ONE, "4@5");
        due("00 00000001 " + ONE + NONE, "4@13");
        due("00 00000001 " + NONE + "7FF0000000000000", "4@5");
        due("00 00000001 7FF0000000000000" + NONE, "4@5");
        due("00 00000001 FFF0000000000000" + ONE, "4@5");
        due("00 00000001 " + NONE + NONE.substring(2), "4@5");
        due("00 00000001 " + ONE + TWO + "00", "8@21");
        due("00 00000001 " + NONE + NONE + "FF", "8@21");
        due("00 00000002", "3@5");
        due("00 00000002 0000", "3@5");
        due("00 00000002 00000001", "3@9");
        due("00 00000002 00000001 " + NONE + NONE, "4@9");
        due("00 00000002 FFFFFFFF " + ONE + TWO, "3@25");
        due("00 00000003 00000001", "3@9");
        due("00 00000003 00000001 00000000", "4@9");
        due("00 00000003 00000001 00000001", "3@13");
        due("00 00000003 FFFFFFFF 00000001 " + ONE + ONE, "3@29");
        due("00 00000004 00000001 00 00000002", "2@10");
        due("00 00000004 00000001 00 000003EA", "2@10");
        due("00 00000004 00000001 00 000003E9", "9@10");
        due("00 00000004 00000001 03", "1@9");
        due("00 00000004 00000001", "3@9");
        due("00 00000005 00000001 00 00000001", "2@10");
        due("00 00000006 00000001 00 00000006", "2@10");
        due("00 00000007 FFFFFFFF", "3@9");
    }

    private static void rounding() {
        String zero = "0000000000000000";
        Bench.due("half down to even", read(0, "00 00000001 3FE0000000000000" + zero), "POINT (0 0)");
        Bench.due("half up to even", read(0, "00 00000001 3FF8000000000000" + zero), "POINT (2 0)");
        Bench.due("a bit above a half", read(0, "00 00000001 3FE0000000000001" + zero), "POINT (1 0)");
        Bench.due("below 0", read(0, "00 00000001 BFF8000000000000 8000000000000000"), "POINT (-2 0)");
        Bench.due("the least", read(3, "00 00000001 0000000000000001 8000000000000001"), "POINT (0 0)");
        Bench.due("0.1 is more", read(1, "00 00000001 3FB999999999999A" + zero), "POINT (0.1 0)");
        // 0.25 * 10 is a half to the bit, 0.35 as a binary fraction is less than it
        Bench.due("tie", read(1, "00 00000001 3FD0000000000000 3FE8000000000000"), "POINT (0.2 0.8)");
        Bench.due("no tie", read(1, "00 00000001 3FD6666666666666" + zero), "POINT (0.3 0)");
        Bench.due("most", read(0, "00 00000001 41CDCD6500000000 C1CDCD6500000000"),
                "POINT (1000000000 -1000000000)");
        Bench.due("most and a half", read(0, "00 00000001 41CDCD6500400000" + zero), "POINT (1000000000 0)");
        Bench.due("more", read(0, "00 00000001 41CDCD6500400001" + zero), "5@5");
        Bench.due("much more", read(0, "00 00000001" + zero + "7FEFFFFFFFFFFFFF"), "5@13");
        Bench.due("of thousandths", read(3, "00 00000001" + zero + "412E848000000000"), "POINT (0 1000000)");
        Bench.due("of thousandths a bit less", read(3, "00 00000001" + zero + "412E848000418937"),
                "POINT (0 1000000)");
        Bench.due("of thousandths more", read(3, "00 00000001" + zero + "412E848000418938"), "5@13");
    }

    private static void deepAndFull() {
        StringBuilder open = new StringBuilder();
        for (int i = 0; i < 50; i++) {
            open.append("00 00000007 00000001");
        }
        due(open + "00 00000007 00000000", "6@451");
        due(open + "00 00000007", "6@451");
        due(open + "00 00000FA7", "2@451");
        due(open + "00 000003EF", "9@451");
        due(open + "00 00000006 00000000", Bench.words(deep(), 0));
        StringBuilder lines = new StringBuilder("00 00000007 00000400");
        for (int i = 0; i < 1023; i++) {
            lines.append("00 00000002 00000000");
        }
        due(lines + "00 00000001", "7@" + (9 + 9 * 1023 + 5));
        due(lines + "00 20000001 00000000", "7@" + (9 + 9 * 1023 + 9));
        due(lines + "00 20000001", "3@" + (9 + 9 * 1023 + 5));
        String shorter = lines.substring(0, lines.length() - 20);
        due(shorter + "00 00000003 00000001", "7@" + (9 + 9 * 1023));
        due(shorter + "00 00000003 00000000", "3@" + (9 + 9 * 1023));
        // a line of 2048 points goes in as words; its bytes and more are read then
        StringBuilder text = new StringBuilder("GEOMETRYCOLLECTION(LINESTRING(0 0");
        for (int i = 1; i < 2048; i++) {
            text.append(",0 0");
        }
        ShapeWorkshop shop = Bench.with(text + "),POINT EMPTY)");
        int size = shop.writeBytes(0, 0);
        Bench.due("size", size, 9 + 9 + 2048 * 16 + 21);
        shop.again();
        shop.end(0);
        Bench.due("end inside of the last", Bench.readTape(shop, 1, false), "3@" + (size - 20));
        shop.again();
        shop.end(4);
        Bench.feedBytes(shop, bytes(ONE + ONE));
        Bench.due("a point too many", Bench.readTape(shop, 1, false), "7@" + (size - 16));
        shop.again();
        shop.end(4);
        Bench.due("full is ahead of the end", Bench.readTape(shop, 1, false), "7@" + (size - 16));
        shop.again();
        Bench.due("an empty one needs no room", Bench.readTape(shop, 1, false), "7");
        Bench.due("the same", shop.same(0, 1), true);
    }

    private static ShapeWorkshop deep() {
        StringBuilder text = new StringBuilder();
        for (int i = 0; i < 50; i++) {
            text.append("GEOMETRYCOLLECTION(");
        }
        text.append("MULTIPOLYGON EMPTY");
        for (int i = 0; i < 50; i++) {
            text.append(")");
        }
        return Bench.with(text.toString());
    }

    private static void writtenDue(int digits, String text, int order, String hex) {
        ShapeWorkshop shop = new ShapeWorkshop(digits);
        Bench.put(shop, 0, text);
        byte[] due = bytes(hex);
        Bench.due("bytes of " + text, shop.writeBytes(0, order), due.length);
        Bench.due("bytes of " + text, java.util.Arrays.toString(Bench.result(shop, due.length)),
                java.util.Arrays.toString(due));
    }

    private static void writing() {
        writtenDue(0, "POINT (1 -2)", 0, "00 00000001" + ONE + "C000000000000000");
        writtenDue(0, "POINT (1 0)", 1, "01 01000000 000000000000F03F 0000000000000000");
        writtenDue(0, "POINT EMPTY", 0, "00 00000001" + NONE + NONE);
        writtenDue(0, "POINT EMPTY", 1, "01 01000000 000000000000F87F 000000000000F87F");
        writtenDue(1, "POINT (0.1 -0.3)", 0, "00 00000001 3FB999999999999A BFD3333333333333");
        writtenDue(3, "POINT (0.001 999999.999)", 0, "00 00000001 3F50624DD2F1A9FC 412E847FFF7CED91");
        writtenDue(0, "POINT (1000000000 3)", 0, "00 00000001 41CDCD6500000000 4008000000000000");
        writtenDue(0, "GEOMETRYCOLLECTION (LINESTRING (1 2), POLYGON ((1 1), (2 2, 1 2)), MULTIPOINT (EMPTY))", 0,
                "00 00000007 00000003 00 00000002 00000001" + ONE + TWO + "00 00000003 00000002 00000001" + ONE + ONE
                        + "00000002" + TWO + TWO + ONE + TWO + "00 00000004 00000001 00 00000001" + NONE + NONE);
        writtenDue(0, "MULTIPOLYGON (EMPTY, ((1 1)))", 1, "01 06000000 02000000 01 03000000 00000000 "
                + "01 03000000 01000000 01000000 000000000000F03F 000000000000F03F");
    }
}
