import java.math.BigDecimal;

/** Promises 5 and 7, the edges: each byte, numbers at their bounds, texts that end, and the last that has room. */
public final class WordEdgesTest {
    private static final String FULL_LINE = "GEOMETRYCOLLECTION(LINESTRING(" + "0 0,".repeat(2047) + "0 0),";

    private static ShapeWorkshop shop;
    private static int reads;

    public static void main(String[] args) {
        eachByte();
        numberForms();
        ranges();
        ties();
        longNumbers();
        ends();
        nothingInBrackets();
        roomForPlan();
        roomForPoints();
        deepAndFull();
        longestText();
        Bench.close("WordEdgesTest");
    }

    private static String read(String text) {
        if (shop == null || reads % 40 == 0) {
            shop = new ShapeWorkshop(0);
        }
        reads++;
        return Bench.read(shop, reads % 32, text);
    }

    private static void due(String text, String want) {
        Bench.due("read " + (text.length() > 300 ? text.length() + " bytes ending " + text.substring(text.length() - 60)
                : text), text.length() > 300 ? Bench.read(new ShapeWorkshop(0), 0, text) : read(text), want);
    }

    private static boolean isBlank(int b) {
        return b == 32 || b == 9 || b == 10 || b == 13;
    }

    private static boolean isLetter(int b) {
        return b >= 65 && b <= 90 || b >= 97 && b <= 122;
    }

    private static boolean isDigit(int b) {
        return b >= 48 && b <= 57;
    }

    private static boolean isForeign(int b) {
        return !isBlank(b) && !isLetter(b) && !isDigit(b) && "+-.(),".indexOf(b) < 0;
    }

    /** What is due behind a number, where it may go on or a blank stands. */
    private static String behindNumber(int b, String blank, String goesOn, String wrongNumber, int at) {
        if (isBlank(b)) {
            return blank;
        }
        if (isDigit(b) || b == '.' || b == 'e' || b == 'E') {
            return goesOn;
        }
        return isLetter(b) || b == '+' || b == '-' ? wrongNumber : (isForeign(b) ? "1@" : "3@") + at;
    }

    private static void eachByte() {
        for (int b = 0; b < 256; b++) {
            char c = (char) b;
            String strange = isForeign(b) ? "1@" : "3@";
            due(c + "POINT (1 2)", isBlank(b) ? "1" : isLetter(b) ? "2@0" : strange + 0);
            due("POINT" + c + "(1 2)", isBlank(b) ? "1" : isLetter(b) ? "2@0" : b == '(' ? "3@6" : strange + 5);
            due("POINT " + c, isBlank(b) || b == '(' ? "3@7" : isLetter(b) ? "2@6" : strange + 6);
            due("POINT (" + c + "1 2)", isBlank(b) || isDigit(b) || b == '+' || b == '-' || b == '.' ? "1"
                    : strange + 7);
            due("POINT (1" + c + "2)", behindNumber(b, "1", "3@10", "4@7", 8));
            due("POINT (1 2" + c + ")", b == ')' ? "8@11" : b == 'e' || b == 'E' ? "4@9"
                    : behindNumber(b, "1", "1", "4@9", 10));
            due("POINT (1 2)" + c, isBlank(b) ? "1" : "8@11");
            due("LINESTRING (1 2" + c + "3 4)", b == ',' ? "2" : b == ')' ? "8@16"
                    : behindNumber(b, "3@16", "3@18", "4@14", 15));
            due("POLYGON (" + c, isBlank(b) || b == '(' ? "3@10" : strange + 9);
            due("POLYGON ((1 2)" + c, b == ')' ? "3" : isBlank(b) || b == ',' ? "3@15" : strange + 14);
            due("MULTIPOINT (" + c + ")", isBlank(b) || isDigit(b) || b == '(' ? "3@13" : isLetter(b) ? "2@12"
                    : b == '+' || b == '-' || b == '.' ? "4@12" : strange + 12);
            due("MULTILINESTRING (" + c, isBlank(b) || b == '(' ? "3@18" : isLetter(b) ? "2@17" : strange + 17);
            due("GEOMETRYCOLLECTION (" + c, isBlank(b) ? "3@21" : isLetter(b) ? "2@20" : strange + 20);
            due("GEOMETRYCOLLECTION (POINT EMPTY" + c, b == ')' ? "7" : isBlank(b) || b == ',' ? "3@32"
                    : isLetter(b) ? "2@26" : strange + 31);
        }
    }

    private static void numberForms() {
        String[] good = {"7", "+7", "-7", "7.", "+7.", "07", "7.0", ".7e1", "7e0", "7e+0", "7e-0", "7E0", "70e-1",
            "0.7E+1", "7.e0", "-7.e0", "+.07e2", "0007.000e000"};
        for (String number : good) {
            due("POINT (" + number + " " + number + ")", "1");
            Bench.due("value of " + number, shop.ordinate(reads % 32, 0, 0), number.startsWith("-") ? -7 : 7);
            Bench.due("value of " + number, shop.ordinate(reads % 32, 0, 1), number.startsWith("-") ? -7 : 7);
        }
        String[] wrong = {"+", "-", ".", "+.", "-.", ".e1", "+e1", "-e", "7e", "7e+", "7e-", "7.e", "7e.", "7e+.1",
            "7e1.", "7e1.5", "7e1e1", "7e1+", "7e1-1", "7..", "7.7.", "..7", "7+", "7-", "7+7", "--7", "+-7", "-+7",
            "7x", "7ee1", "7e++1", "7e1x", ".x", "0x7", "7e 1", "7e-,", "9999999999999x", "1e99e"};
        for (String number : wrong) {
            due("POINT (" + number + " 1)", "4@7");
            due("POINT (1 " + number + ")", "4@9");
        }
        // a number that does not begin here is something else
        due("POINT (e1 1)", "3@7");
        due("POINT (x7 1)", "3@7");
        due("POINT (1 e1)", "3@9");
    }

    /** As many digits as are kept, times 10 to the power so many. */
    private static String unitsDue(int digits, BigDecimal units) {
        ShapeWorkshop other = new ShapeWorkshop(digits);
        BigDecimal number = units.scaleByPowerOfTen(-digits);
        String plain = number.toPlainString();
        String[] forms = {plain, number.unscaledValue() + "e" + -number.scale(),
            number.movePointLeft(30).toPlainString() + "e30", number.movePointRight(30).toPlainString() + "E-30"};
        String got = null;
        for (String form : forms) {
            String one = Bench.read(other, 0, "POINT (" + form + " " + form + ")");
            String told = one.equals("1") ? other.ordinate(0, 0, 0) + " " + other.ordinate(0, 0, 1) : one;
            Bench.due("form " + form, told, got == null ? told : got);
            got = told;
        }
        return got;
    }

    private static void ranges() {
        BigDecimal most = BigDecimal.valueOf(1000000000);
        BigDecimal half = new BigDecimal("0.5");
        BigDecimal bit = BigDecimal.ONE.movePointLeft(40);
        for (int digits = 0; digits < 4; digits++) {
            for (int sign = -1; sign <= 1; sign += 2) {
                BigDecimal s = BigDecimal.valueOf(sign);
                String last = sign * 1000000000L + " " + sign * 1000000000L;
                String before = sign * 999999999L + " " + sign * 999999999L;
                Bench.due("the most", unitsDue(digits, most.multiply(s)), last);
                Bench.due("half a unit more", unitsDue(digits, most.add(half).multiply(s)), last);
                Bench.due("a bit more", unitsDue(digits, most.add(half).add(bit).multiply(s)), "5@7");
                Bench.due("a unit more", unitsDue(digits, most.add(BigDecimal.ONE).multiply(s)), "5@7");
                Bench.due("ten times", unitsDue(digits, most.multiply(BigDecimal.TEN).multiply(s)), "5@7");
                Bench.due("half a unit less", unitsDue(digits, most.subtract(half).multiply(s)), last);
                Bench.due("a bit less", unitsDue(digits, most.subtract(half).subtract(bit).multiply(s)), before);
            }
        }
        due("POINT (0 1000000001)", "5@9");
        due("POINT (1000000001 1000000001)", "5@7");
        due("POINT (1000000001 #)", "5@7");
        due("MULTIPOINT (1 2, (3 -1000000001))", "5@20");
        due("POLYGON ((1 2, 1000000001", "5@15");
    }

    private static void ties() {
        BigDecimal half = new BigDecimal("0.5");
        BigDecimal bit = BigDecimal.ONE.movePointLeft(40);
        for (int digits = 0; digits < 4; digits++) {
            for (int n = 0; n < 12; n++) {
                int even = n + (n & 1);
                BigDecimal tie = BigDecimal.valueOf(n).add(half);
                Bench.due("tie", unitsDue(digits, tie), even + " " + even);
                Bench.due("tie below 0", unitsDue(digits, tie.negate()), -even + " " + -even);
                Bench.due("above", unitsDue(digits, tie.add(bit)), n + 1 + " " + (n + 1));
                Bench.due("below", unitsDue(digits, tie.subtract(bit)), n + " " + n);
                Bench.due("above, less than 0", unitsDue(digits, tie.add(bit).negate()), -n - 1 + " " + (-n - 1));
                Bench.due("below, less than 0", unitsDue(digits, tie.subtract(bit).negate()), -n + " " + -n);
            }
        }
    }

    private static void valueDue(String number, int want) {
        ShapeWorkshop other = new ShapeWorkshop(0);
        Bench.due("a long number", Bench.read(other, 0, "POINT (1 " + number + ")"), "1");
        Bench.due("its value", other.ordinate(0, 0, 1), want);
    }

    private static void longNumbers() {
        String zeros = "0".repeat(4000);
        String nines = "9".repeat(4000);
        valueDue("1" + zeros + "e-4000", 1);
        valueDue("0." + zeros + "1e4001", 1);
        valueDue("." + zeros + "15e4002", 15);
        valueDue("0.5" + zeros, 0);
        valueDue("0.5" + zeros + "1", 1);
        valueDue("5" + zeros + "e-4001", 0);
        valueDue("5" + zeros + "1e-4002", 1);
        valueDue("1.5" + zeros, 2);
        valueDue("-2.5" + zeros, -2);
        valueDue("-2.5" + zeros + "1", -3);
        valueDue(zeros + "7", 7);
        valueDue(zeros + ".7" + zeros, 1);
        valueDue("1e" + zeros + "2", 100);
        valueDue("100e-" + zeros + "2", 1);
        valueDue("7e-" + nines, 0);
        valueDue("0e" + nines, 0);
        valueDue("0." + zeros + "e+" + nines, 0);
        valueDue(nines + "e-4000", 1);
        valueDue("4" + nines + "e-4001", 0);
        valueDue("0." + nines, 1);
        valueDue("1e00000000000000000000000000000009", 1000000000);
        due("POINT (1 1e" + nines + ")", "5@9");
        due("POINT (1 " + nines + ")", "5@9");
        due("POINT (1 0." + zeros + "1e" + nines + ")", "5@9");
        // powers that wrap an int or a long are no others
        for (String power : new String[] {"4294967296", "4294967297", "18446744073709551616", "2147483648"}) {
            due("POINT (1 1e" + power + ")", "5@9");
            due("POINT (1 1e-" + power + ")", "1");
            Bench.due("next to nothing", shop.ordinate(reads % 32, 0, 1), 0);
        }
    }

    /** Each beginning of a text: what goes on is expected at the end, or the word there is none. */
    private static void ends() {
        String text = "GeometryCollection ( Point (1 2), MULTIPOINT(3 4 , (5 6),EMPTY), Polygon ((1 2, 3 4), (5 6)),"
                + "LINESTRING EMPTY, MultiLineString ((1 2), EMPTY ),multipolygon(EMPTY,((1 2))))";
        for (int end = 0; end < text.length(); end++) {
            int word = end;
            while (word > 0 && isLetter(text.charAt(word - 1))) {
                word--;
            }
            boolean inWord = word < end && isLetter(text.charAt(end));
            boolean known = inWord && java.util.Arrays.asList(Told.WORDS)
                    .contains(text.substring(word, end).toUpperCase());
            due(text.substring(0, end), inWord && !known ? "2@" + word : "3@" + end);
            due(text.substring(0, end) + " \n", inWord && !known ? "2@" + word : "3@" + (end + 2));
        }
        due(text, "7");
        due(text + " \t\r\n", "7");
        due(text + " ,", "8@" + (text.length() + 1));
        due(text + ")", "8@" + text.length());
        due(" \n" + text + "\0", "8@" + (text.length() + 2));
    }

    private static void nothingInBrackets() {
        for (int kind = 1; kind <= 7; kind++) {
            String word = Told.WORDS[kind];
            due(word + " ()", "3@" + (word.length() + 2));
            due(word + " (,)", "3@" + (word.length() + 2));
            due(word, "3@" + word.length());
            due(word + " EMPTY EMPTY", "8@" + (word.length() + 7));
            due(word + " EMPTYEMPTY", "2@" + (word.length() + 1));
            due(word + " EMPT", "2@" + (word.length() + 1));
            due(word + "S EMPTY", "2@0");
            due(word.substring(1) + " EMPTY", "2@0");
        }
        due("POLYGON (())", "3@10");
        due("MULTIPOLYGON (())", "3@15");
        due("MULTIPOLYGON ((()))", "3@16");
        due("MULTILINESTRING (())", "3@18");
        due("MULTIPOINT (())", "3@13");
        due("MULTIPOINT ((EMPTY))", "3@13");
        due("MULTIPOINT (((1 2)))", "3@13");
        due("MULTIPOINT (1 2,,3 4)", "3@16");
        due("POINT (1 2) EMPTY", "8@12");
    }

    /** A polygon of one ring has three numbers, so that one is left in the end, or none. */
    private static void roomForPlan() {
        String odd = "GEOMETRYCOLLECTION(POLYGON((0 0)),MULTIPOINT(" + "EMPTY,".repeat(1019);
        due(odd + "EMPTY))", "7");
        due(odd + "EMPTY, EMPTY))", "7@" + (odd.length() + 7));
        due(odd + "EMPTY,#", "7@" + (odd.length() + 6));
        due(odd + "EMPTY),POINT EMPTY)", "7@" + (odd.length() + 13));
        due(odd + "EMPTY),POINT\n\n;", "7@" + (odd.length() + 14));
        due(odd + "EMPTY),POINT", "7@" + (odd.length() + 12));
        due(odd + "EMPTY),POLYGON(", "7@" + (odd.length() + 14));
        due(odd + "EMPTY),PINT", "2@" + (odd.length() + 7));
        due(odd + "EMPTY),5", "3@" + (odd.length() + 7));
        due(odd + "(0 0)),X", "2@" + (odd.length() + 7));
        String last = "GEOMETRYCOLLECTION(POLYGON((0 0)),MULTIPOINT(" + "EMPTY,".repeat(1018) + "EMPTY),POLYGON(";
        due(last + "(0 0)))", "7");
        due(last + "(0 0),(0 0)))", "7@" + (last.length() + 6));
        due(last + "(0 0), ,", "7@" + (last.length() + 7));
        due(last + "(0 0)", "3@" + (last.length() + 5));
        String even = "GEOMETRYCOLLECTION(MULTIPOINT(" + "EMPTY,".repeat(1020);
        due(even + "EMPTY),LINESTRING EMPTY)", "7");
        due(even + "EMPTY),LINESTRING(1 2))", "7");
        due(even + "EMPTY),POLYGON EMPTY)", "7");
        due(even + "EMPTY),POLYGON((1 2)))", "7@" + (even.length() + 15));
        due(even + "EMPTY),POLYGON)", "3@" + (even.length() + 14));
        due(even + "EMPTY),MULTIPOLYGON(EMPTY))", "7@" + (even.length() + 20));
        due(even + "EMPTY),MULTILINESTRING( (1 2)))", "7@" + (even.length() + 24));
        due(even + "EMPTY),GEOMETRYCOLLECTION( POINT EMPTY))", "7@" + (even.length() + 33));
    }

    private static void roomForPoints() {
        int at = FULL_LINE.length();
        due(FULL_LINE.substring(0, at - 1) + ")", "7");
        due(FULL_LINE + "POLYGON EMPTY)", "7");
        due(FULL_LINE + "MULTIPOINT(EMPTY))", "7");
        String[] wrong = {"", "#", ")", "(", "x", "1e", "1000000001 0)", "5 5)", "EMPTY)"};
        for (String next : wrong) {
            due(FULL_LINE + "POINT(" + next, "7@" + (at + 6));
            due(FULL_LINE + "LINESTRING( " + next, "7@" + (at + 12));
            due(FULL_LINE + "POLYGON((" + next, "7@" + (at + 9));
            due(FULL_LINE + "MULTILINESTRING((\t" + next, "7@" + (at + 18));
            due(FULL_LINE + "MULTIPOLYGON(EMPTY,((" + next, "7@" + (at + 21));
            due(FULL_LINE + "MULTIPOINT(EMPTY, (" + next, "7@" + (at + 19));
        }
        due(FULL_LINE + "MULTIPOINT( 1e", "7@" + (at + 12));
        due(FULL_LINE + "MULTIPOINT( 1000000001 0", "7@" + (at + 12));
        due(FULL_LINE + "MULTIPOINT(-", "7@" + (at + 11));
        // one less, and it has room
        String less = FULL_LINE.replaceFirst("0 0,", "");
        due(less + "POINT(5 5))", "7");
        due(less + "MULTIPOINT(5 5,EMPTY))", "7");
        due(less + "MULTIPOINT(5 5,6 6))", "7@" + (less.length() + 15));
        due(less + "POLYGON((5 5)))", "7");
        due(less + "POLYGON((5 5),(", "7@" + (less.length() + 15));
        due(less + "POLYGON((5 5, ", "7@" + (less.length() + 14));
    }

    private static void deepAndFull() {
        String open = "GEOMETRYCOLLECTION(";
        // 100 plan numbers of 50, 2 and 1946 more: none is left
        String full = open.repeat(50) + "MULTIPOINT(" + "EMPTY,".repeat(972) + "EMPTY),";
        due(full.substring(0, full.length() - 1) + ")".repeat(50), "7");
        due(full + "GEOMETRYCOLLECTION EMPTY", "6@" + full.length());
        due(full + "geometrycollection", "6@" + full.length());
        due(full + "POINT EMPTY", "7@" + (full.length() + 6));
        String shallow = open.repeat(49) + "MULTIPOINT(" + "EMPTY,".repeat(973) + "EMPTY),";
        due(shallow + "GEOMETRYCOLLECTION EMPTY", "7@" + (shallow.length() + 19));
        // fifty that were closed before are no others around it
        String many = "GEOMETRYCOLLECTION(" + "GEOMETRYCOLLECTION EMPTY,".repeat(60) + open + "POINT EMPTY),";
        due(many + "GEOMETRYCOLLECTION EMPTY)", "7");
        due(open.repeat(50) + "GEOMETRYCOLLECTIONS EMPTY", "2@950");
        due(open.repeat(50) + "POINT EMPTY,\nGEOMETRYCOLLECTION EMPTY", "6@963");
        due(open.repeat(50) + "POINT EMPTY),GEOMETRYCOLLECTION EMPTY" + ")".repeat(49), "7");
        due(open.repeat(50) + "POINT EMPTY),GEOMETRYCOLLECTION(GEOMETRYCOLLECTION EMPTY", "6@982");
    }

    /** As many points as there may be, each as long as can be, and as many empty shapes as there is room for. */
    private static void longestText() {
        ShapeWorkshop other = new ShapeWorkshop(0);
        String text = "GEOMETRYCOLLECTION (LINESTRING (" + "-1000000000 -1000000000, ".repeat(2047)
                + "-1000000000 -1000000000)" + ", GEOMETRYCOLLECTION EMPTY".repeat(1022) + ")";
        Bench.put(other, 0, text.replace("-1000000000", "-1e9").replace(", ", ","));
        Bench.due("plan and points", other.count(0, 0) + " " + other.count(0, 1), "2048 2048");
        Bench.due("longest", other.writeWords(0), 77804);
        Bench.due("all of it", new String(Bench.result(other, 77804), java.nio.charset.StandardCharsets.ISO_8859_1),
                text);
        Bench.outcomeDue("behind it", () -> other.byteAt(77804), Bench.INDEX);
        Bench.due("as much as the tape holds", other.again(), 65536);
        Bench.due("the result stays", other.count(0, 3), 77804);
        Bench.due("the text ends there", Bench.readTape(other, 1, true), "2@65533");
        Bench.due("the longest in bytes", other.writeBytes(0, 1), 9 + 9 + 2048 * 16 + 1022 * 9);
        other.again();
        Bench.due("read again", Bench.readTape(other, 1, false), "7");
        Bench.due("the same", other.same(0, 1), true);
    }
}
