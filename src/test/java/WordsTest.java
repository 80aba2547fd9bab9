/** Promises 5, 7 and 8: what words may be, what is wrong with others, and how shapes are written. */
public final class WordsTest {
    public static void main(String[] args) {
        shapes();
        numbers();
        faults();
        deep();
        full();
        writing();
        states();
        Bench.close("WordsTest");
    }

    private static void due(String text, String want) {
        Bench.due("read " + text, Bench.read(new ShapeWorkshop(0), 0, text), want);
    }

    private static void comesAs(int digits, String text, String want) {
        ShapeWorkshop shop = new ShapeWorkshop(digits);
        String got = Bench.read(shop, 0, text);
        Bench.due("words of " + text, got.contains("@") ? got : Bench.words(shop, 0), want);
    }

    private static void shapes() {
        comesAs(0, "point(1 2)", "POINT (1 2)");
        comesAs(0, " \t\r\nPoInT \n( \t1\r2 ) \n", "POINT (1 2)");
        comesAs(0, "POINT EMPTY", "POINT EMPTY");
        comesAs(0, "point\nempty", "POINT EMPTY");
        comesAs(0, "LINESTRING(1 2,3 4 , 5 6)", "LINESTRING (1 2, 3 4, 5 6)");
        comesAs(0, "LINESTRING(1 2)", "LINESTRING (1 2)");
        comesAs(0, "POLYGON((0 0,1 0,0 1),(5 5))", "POLYGON ((0 0, 1 0, 0 1), (5 5))");
        comesAs(0, "MULTIPOINT(1 2,(3 4),EMPTY)", "MULTIPOINT ((1 2), (3 4), EMPTY)");
        comesAs(0, "MULTILINESTRING(EMPTY,(1 2,3 4))", "MULTILINESTRING (EMPTY, (1 2, 3 4))");
        comesAs(0, "MULTIPOLYGON(((1 2,3 4)),EMPTY)", "MULTIPOLYGON (((1 2, 3 4)), EMPTY)");
        comesAs(0, "GEOMETRYCOLLECTION(POINT(1 2),GEOMETRYCOLLECTION EMPTY)",
                "GEOMETRYCOLLECTION (POINT (1 2), GEOMETRYCOLLECTION EMPTY)");
        for (int kind = 1; kind <= 7; kind++) {
            due(Told.WORDS[kind] + " EMPTY", Integer.toString(kind));
        }
    }

    private static void numbers() {
        comesAs(0, "POINT (+1 -0)", "POINT (1 0)");
        comesAs(0, "POINT (.5 1.5)", "POINT (0 2)");
        comesAs(0, "POINT (-.5 -1.5)", "POINT (0 -2)");
        comesAs(0, "POINT (2.5 2.50000000000000000000000000001)", "POINT (2 3)");
        comesAs(0, "POINT (1. 1.e1)", "POINT (1 10)");
        comesAs(0, "POINT (1E+2 12345e-2)", "POINT (100 123)");
        comesAs(0, "POINT (0e99999999999 1e-99999999999)", "POINT (0 0)");
        comesAs(0, "POINT (0.00000000001e11 1000000000.5)", "POINT (1 1000000000)");
        comesAs(0, "POINT (1000000000.51 0)", "5@7");
        comesAs(0, "POINT (0 -1000000001)", "5@9");
        comesAs(0, "POINT (0 1e10)", "5@9");
        comesAs(0, "POINT (1e99999999999 1)", "5@7");
        comesAs(1, "POINT (0.25 0.35)", "POINT (0.2 0.4)");
        comesAs(1, "POINT (100000000.05 -100000000.0500)", "POINT (100000000 -100000000)");
        comesAs(1, "POINT (100000000.051 0)", "5@7");
        comesAs(2, "POINT (0.005 0.015)", "POINT (0 0.02)");
        comesAs(2, "POINT (-12.30 12.345)", "POINT (-12.3 12.34)");
        comesAs(3, "POINT (0.0005 -0.0015)", "POINT (0 -0.002)");
        comesAs(3, "POINT (-999999.9995 999999.9994)", "POINT (-1000000 999999.999)");
        comesAs(3, "POINT (-0.001 100.010)", "POINT (-0.001 100.01)");
        comesAs(3, "POINT (1e-3 123456789e-5)", "POINT (0.001 1234.568)");
    }

    private static void faults() {
        due("", "3@0");
        due("  ", "3@2");
        due("(", "3@0");
        due(" #", "1@1");
        due("PO\u00e9NT (1 2)", "2@0");
        due("\u00e9", "1@0");
        due("CIRCLE (1 2)", "2@0");
        due(" EMPTY", "2@1");
        due("POINTEMPTY", "2@0");
        due("POINT", "3@5");
        due("POINT 5", "3@6");
        due("POINT Z (1 2)", "2@6");
        due("POINT EMPTYX", "2@6");
        due("POINT EMPTY X", "8@12");
        due("POINT EMPTY#", "8@11");
        due("POINT EMPTY 5", "8@12");
        due("POINT EMPTY  ", "1");
        due("POINT;", "1@5");
        due("POINT (EMPTY)", "3@7");
        due("POINT ()", "3@7");
        due("POINT (1)", "3@8");
        due("POINT (1 )", "3@9");
        due("POINT (1,2)", "3@8");
        due("POINT (1 2,3 4)", "3@10");
        due("POINT (1 2 3)", "3@11");
        due("POINT (1 2", "3@10");
        due("POINT (1 2  ", "3@12");
        due("POINT (1#2)", "1@8");
        due("POINT (1 #)", "1@9");
        due("POINT (1 x)", "3@9");
        due("POINT (1x 2)", "4@7");
        due("POINT (1-2)", "4@7");
        due("POINT (1+ 2)", "4@7");
        due("POINT (1.2.3 2)", "4@7");
        due("POINT (1 . )", "4@9");
        due("POINT (1 +)", "4@9");
        due("POINT (1 -x)", "4@9");
        due("POINT (1e 2)", "4@7");
        due("POINT (1e+ 2)", "4@7");
        due("POINT (1e5.5 2)", "4@7");
        due("POINT (.e5 2)", "4@7");
        due("POINT (99999999999x 2)", "4@7");
        due("POINT (99999999999 x)", "5@7");
        due("POINT ((1 2))", "3@7");
        due("LINESTRING (1 2,)", "3@16");
        due("LINESTRING ((1 2))", "3@12");
        due("LINESTRING (1 2;3 4)", "1@15");
        due("POLYGON (1 2)", "3@9");
        due("POLYGON (EMPTY)", "3@9");
        due("POLYGON (())", "3@10");
        due("POLYGON ((1 2)", "3@14");
        due("POLYGON ((1 2),)", "3@15");
        due("MULTIPOINT (X)", "2@12");
        due("MULTIPOINT (POINT (1 2))", "2@12");
        due("MULTIPOINT ()", "3@12");
        due("MULTIPOINT (#)", "1@12");
        due("MULTIPOINT ((1 2,3 4))", "3@16");
        due("MULTIPOINT (1 2", "3@15");
        due("MULTILINESTRING (1 2)", "3@17");
        due("MULTILINESTRING (LINESTRING (1 2))", "2@17");
        due("MULTIPOLYGON ((1 2))", "3@15");
        due("MULTIPOLYGON ((EMPTY))", "3@15");
        due("GEOMETRYCOLLECTION (1 2)", "3@20");
        due("GEOMETRYCOLLECTION (EMPTY)", "2@20");
        due("GEOMETRYCOLLECTION ()", "3@20");
        due("GEOMETRYCOLLECTION (POINT EMPTY", "3@31");
        due("GEOMETRYCOLLECTION (POINT EMPTY) )", "8@33");
        due("\0", "1@0");
        due("POINT (1\0002)", "1@8");
    }

    private static String times(String text, int n) {
        StringBuilder all = new StringBuilder();
        for (int i = 0; i < n; i++) {
            all.append(text);
        }
        return all.toString();
    }

    private static void deep() {
        String open = "GEOMETRYCOLLECTION(";
        due(times(open, 50) + "POINT EMPTY" + times(")", 50), "7");
        due(times(open, 50) + "POINT EMPTY" + times(")", 49), "3@" + (50 * 19 + 11 + 49));
        due(times(open, 50) + " GEOMETRYCOLLECTION EMPTY", "6@" + (50 * 19 + 1));
        due(times(open, 50) + "GEOMETRYCOLLECTION#", "6@" + 50 * 19);
        due(times(open, 49) + "GEOMETRYCOLLECTION EMPTY" + times(")", 49), "7");
        due(times(open, 50) + "MULTIPOLYGON(((1 2)))" + times(")", 50), "7");
        // one that is closed is not open any more
        due(open + times(open, 49) + "POINT EMPTY" + times(")", 49) + "," + times(open, 49) + "POINT EMPTY"
                + times(")", 50), "7");
    }

    private static void full() {
        String points = times("0 0,", 1022);
        due("MULTIPOINT(" + points + "0 0)", "4");
        due("MULTIPOINT(" + points + "0 0,0 0)", "7@" + (11 + 1023 * 4));
        due("MULTIPOINT(" + points + "0 0, #", "7@" + (11 + 1023 * 4 + 1));
        due("MULTIPOINT(" + points + "0 0,", "7@" + (11 + 1023 * 4));
        due("MULTIPOINT(" + points + "0 0#", "1@" + (11 + 1023 * 4 - 1));
        String many = times("0 0,", 2047);
        due("LINESTRING(" + many + "0 0)", "2");
        due("LINESTRING(" + many + "0 0,0 0)", "7@" + (11 + 2048 * 4));
        due("LINESTRING(" + many + "0 0,\n)", "7@" + (11 + 2048 * 4 + 1));
        String lines = "GEOMETRYCOLLECTION(LINESTRING(" + many + "0 0),";
        due(lines + "POINT 5", "3@" + (lines.length() + 6));
        due(lines + "POINT ( 5", "7@" + (lines.length() + 8));
        due(lines + "POINT EMPTY)", "7");
        due(lines + "POLYGON(( 5", "7@" + (lines.length() + 10));
        due(lines + "MULTIPOINT(EMPTY,5", "7@" + (lines.length() + 17));
        due(lines + "MULTIPOINT(EMPTY,(X", "7@" + (lines.length() + 18));
        String rings = "POLYGON(" + times("(0 0),", 2045) + "(0 0)";
        due(rings + ")", "3");
        due(rings + ", (0 0))", "7@" + (rings.length() + 2));
        due(rings + ",", "7@" + (rings.length() + 1));
        String shapes = "GEOMETRYCOLLECTION(" + times("POINT EMPTY,", 1022);
        due(shapes + "POINT EMPTY)", "7");
        due(shapes + "POINT EMPTY,POINT  EMPTY)", "7@" + (shapes.length() + 12 + 7));
        due(shapes + "POINT EMPTY,POINT", "7@" + (shapes.length() + 12 + 5));
        due(shapes + "POINT EMPTY,X", "2@" + (shapes.length() + 12));
        due(shapes + "MULTIPOINT(#", "7@" + (shapes.length() + 11));
        due(shapes + "POLYGON(#", "7@" + (shapes.length() + 8));
        due(shapes + "MULTIPOINT(", "7@" + (shapes.length() + 11));
    }

    private static void writing() {
        comesAs(0, "GEOMETRYCOLLECTION(MULTIPOINT(EMPTY),MULTILINESTRING EMPTY,MULTIPOLYGON(((1 2),(3 4)),((5 6))),"
                + "GEOMETRYCOLLECTION(POINT(1 2)))", "GEOMETRYCOLLECTION (MULTIPOINT (EMPTY), MULTILINESTRING EMPTY, "
                + "MULTIPOLYGON (((1 2), (3 4)), ((5 6))), GEOMETRYCOLLECTION (POINT (1 2)))");
        comesAs(3, "POINT (1000000 -1000000)", "POINT (1000000 -1000000)");
        comesAs(2, "POINT (-0.10 -0.01)", "POINT (-0.1 -0.01)");
        comesAs(1, "POINT (10 100)", "POINT (10 100)");
        comesAs(3, "POINT (7.070 70.707)", "POINT (7.07 70.707)");
        comesAs(0, "POINT (-1000000000 1000000000)", "POINT (-1000000000 1000000000)");
    }

    private static void states() {
        ShapeWorkshop shop = Bench.with("POINT (1 2)");
        Bench.due("fault", Bench.read(shop, 0, "POINT (1 2"), "3@10");
        Bench.due("slot has none then", shop.count(0, 0), 0);
        Bench.outcomeDue("none to write", () -> shop.writeWords(0), Bench.STATE);
        Bench.due("good again", Bench.read(shop, 0, "POINT (3 4)"), "1");
        Bench.due("no fault", shop.fault(0), 0);
        Bench.due("no place", shop.fault(1), 0);
        Bench.due("instead of the old one", Bench.read(shop, 0, "LINESTRING EMPTY"), "2");
        Bench.due("nothing of it is left", shop.count(0, 1), 0);
    }
}
