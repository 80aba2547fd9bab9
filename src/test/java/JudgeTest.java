/** Promises 14 and 15: each fault with its place, and what is right though it looks wrong. */
public final class JudgeTest {
    public static void main(String[] args) {
        right();
        linesAndRings();
        pairs();
        holes();
        parts();
        numbered();
        states();
        large();
        Bench.close("JudgeTest");
    }

    private static void due(String text, int fault, String places) {
        ShapeWorkshop shop = Bench.with(text);
        Bench.due("judge " + text, shop.judge(0), fault);
        StringBuilder got = new StringBuilder();
        for (int what = 0; what < 7; what++) {
            got.append(what > 0 ? " " : "").append(shop.place(what) < 0 ? "-" : "" + shop.place(what));
        }
        Bench.due("place of " + text, got.toString(), places);
    }

    private static void right(String text) {
        due(text, 0, "- - - - - - -");
    }

    private static void right() {
        right("POINT (1 1)");
        right("POINT EMPTY");
        right("LINESTRING EMPTY");
        right("LINESTRING (0 0, 0 0, 1 1)");
        right("LINESTRING (0 0, 2 2, 0 2, 2 0)");
        right("POLYGON EMPTY");
        right("POLYGON ((0 0, 4 0, 4 4, 0 0))");
        right("POLYGON ((0 0, 0 0, 4 0, 4 0, 4 4, 0 0, 0 0))");
        right("POLYGON ((0 0, 2 0, 4 0, 4 4, 0 0))");
        right("POLYGON ((0 0, 8 0, 8 8, 0 8, 0 0), (0 0, 2 1, 1 2, 0 0))");
        right("POLYGON ((0 0, 8 0, 8 8, 0 8, 0 0), (4 0, 5 2, 3 2, 4 0))");
        right("POLYGON ((0 0, 8 0, 8 8, 0 8, 0 0), (1 1, 3 1, 3 3, 1 1), (3 3, 5 3, 5 5, 3 3))");
        right("MULTIPOLYGON (((0 0, 2 0, 2 2, 0 0)), ((2 2, 4 2, 4 4, 2 2)))");
        right("MULTIPOLYGON (((0 0, 9 0, 9 9, 0 9, 0 0), (1 1, 8 1, 8 8, 1 8, 1 1)), ((2 2, 4 2, 4 4, 2 2)))");
        right("MULTIPOLYGON (((2 2, 4 2, 4 4, 2 2)), ((0 0, 9 0, 9 9, 0 9, 0 0), (1 1, 8 1, 8 8, 1 8, 1 1)))");
        right("MULTIPOLYGON (EMPTY, ((0 0, 2 0, 2 2, 0 0)), EMPTY)");
        right("GEOMETRYCOLLECTION (POLYGON ((0 0, 2 0, 2 2, 0 0)), POLYGON ((0 0, 2 0, 2 2, 0 0)))");
        right("GEOMETRYCOLLECTION EMPTY");
        right("MULTIPOINT ((1 1), (1 1))");
    }

    private static void linesAndRings() {
        due("LINESTRING (1 1)", 2, "0 - - - - - -");
        due("LINESTRING (1 1, 1 1)", 2, "0 - - - - - -");
        due("MULTILINESTRING ((0 0, 1 1), EMPTY, (2 2, 2 2))", 2, "3 - - - - - -");
        due("POLYGON ((0 0, 4 0, 4 4, 0 1))", 1, "0 0 0 - - - -");
        due("POLYGON ((0 0, 4 0, 4 4, 0 0), (1 1, 2 2))", 1, "0 0 1 - - - -");
        due("POLYGON ((0 0))", 2, "0 0 0 - - - -");
        due("POLYGON ((0 0, 4 0, 0 0))", 2, "0 0 0 - - - -");
        due("POLYGON ((0 0, 4 0, 4 0, 0 0, 4 0, 0 0))", 2, "0 0 0 - - - -");
        due("POLYGON ((0 0, 4 0, 0 0), (1 1, 2 2))", 2, "0 0 0 - - - -");
        due("POLYGON ((0 0, 4 0, 4 4, 0 0), (1 1, 2 2), (0 0))", 1, "0 0 1 - - - -");
        due("MULTIPOLYGON (((0 0, 2 0, 2 2, 0 0)), ((0 0, 1 0)))", 1, "0 1 0 - - - -");
    }

    private static void pairs() {
        due("POLYGON ((0 0, 4 0, 2 0, 2 4, 0 0))", 3, "0 0 0 0 0 0 1");
        due("POLYGON ((0 0, 4 0, 4 4, 4 0, 0 4, 0 0))", 5, "0 0 0 0 0 0 2");
        due("POLYGON ((4 4, 4 0, 4 4, 0 4, 0 0, 4 4))", 3, "0 0 0 0 0 0 1");
        due("POLYGON ((0 0, 4 4, 4 0, 0 4, 0 0))", 4, "0 0 0 0 0 0 2");
        due("POLYGON ((0 0, 0 0, 4 4, 4 0, 0 4, 0 0))", 4, "0 0 0 1 0 0 3");
        due("POLYGON ((0 0, 4 0, 4 4, 2 0, 0 4, 0 0))", 5, "0 0 0 0 0 0 2");
        due("POLYGON ((0 0, 2 2, 4 0, 4 4, 2 2, 0 4, 0 0))", 5, "0 0 0 0 0 0 3");
        due("POLYGON ((0 0, 8 0, 8 8, 0 8, 0 0), (0 2, 0 4, 2 4, 2 2, 0 2))", 3, "0 0 0 3 0 1 0");
        // where the side that both share begins, just one way of the hole lies to the left: found first
        due("POLYGON ((0 0, 8 0, 8 8, 0 8, 0 0), (0 2, 2 2, 2 4, 0 4, 0 2))", 4, "0 0 0 3 0 1 2");
        due("POLYGON ((0 0, 8 0, 8 8, 0 8, 0 0), (7 7, 9 7, 9 9, 7 9, 7 7))", 4, "0 0 0 1 0 1 0");
        due("POLYGON ((0 0, 8 0, 8 8, 0 8, 0 0), (4 4, 8 4, 10 6, 4 6, 4 4))", 4, "0 0 0 1 0 1 0");
        // the hole goes out through a corner of the shell
        due("POLYGON ((0 0, 8 0, 8 8, 0 8, 0 0), (4 4, 8 8, 10 9, 9 10, 8 8, 4 6, 4 4))", 4, "0 0 0 1 0 1 0");
        due("POLYGON ((0 0, 8 0, 8 8, 0 8, 0 0), (4 6, 4 4, 8 8, 9 9, 4 6))", 4, "0 0 0 1 0 1 1");
        // neighbours of a ring of three sides meet at both ends of one
        right("POLYGON ((0 0, 4 0, 0 4, 0 0))");
        due("MULTIPOLYGON (((0 0, 4 4, 4 0, 0 4, 0 0)), ((0 0)))", 4, "0 0 0 0 0 0 2");
    }

    private static void holes() {
        String shell = "(0 0, 8 0, 8 8, 0 8, 0 0)";
        due("POLYGON (" + shell + ", (9 9, 10 9, 10 10, 9 9))", 6, "0 0 1 - - - -");
        due("POLYGON (" + shell + ", (1 1, 2 1, 2 2, 1 1), (8 8, 9 8, 9 9, 8 8))", 6, "0 0 2 - - - -");
        due("POLYGON ((2 2, 6 2, 6 6, 2 6, 2 2), " + shell + ")", 6, "0 0 1 - - - -");
        due("POLYGON (" + shell + ", (1 1, 7 1, 7 7, 1 7, 1 1), (2 2, 3 2, 3 3, 2 2))", 7, "0 0 1 - 0 2 -");
        due("POLYGON (" + shell + ", (2 2, 3 2, 3 3, 2 2), (5 5, 5 6, 6 6, 5 5), (1 1, 4 1, 4 4, 1 4, 1 1))", 7,
                "0 0 1 - 0 3 -");
        due("POLYGON (" + shell + ", (1 1, 7 1, 7 7, 1 7, 1 1), (1 1, 3 2, 2 3, 1 1))", 7, "0 0 1 - 0 2 -");
        // all corners of the hole are on the other ring: what is behind its beginning tells
        right("POLYGON ((0 0, 9 0, 6 3, 9 9, 3 6, 0 9, 0 0), (1 1, 2 1, 2 2, 1 1))");
        due("POLYGON (" + shell + ", (0 4, 4 0, 8 4, 4 8, 0 4))", 8, "0 0 - - - - -");
        due("POLYGON (" + shell + ", (0 4, 4 2, 8 4, 4 6, 0 4))", 8, "0 0 - - - - -");
        due("POLYGON (" + shell + ", (0 4, 2 2, 4 4, 2 6, 0 4), (4 4, 6 2, 8 4, 6 6, 4 4))", 8, "0 0 - - - - -");
        due("POLYGON (" + shell + ", (1 4, 2 2, 4 4, 1 4), (4 4, 6 2, 6 4, 4 4), (2 2, 4 1, 6 2, 2 2))", 8,
                "0 0 - - - - -");
        right("POLYGON (" + shell + ", (4 4, 6 4, 6 5, 4 4), (4 4, 4 6, 3 6, 4 4), (4 4, 2 4, 2 3, 4 4))");
        right("POLYGON (" + shell + ", (0 4, 2 2, 4 4, 2 6, 0 4), (4 4, 6 2, 7 4, 6 6, 4 4))");
        due("MULTIPOLYGON (((20 20, 21 20, 21 21, 20 20)), (" + shell + ", (0 4, 4 2, 8 4, 4 6, 0 4)))", 8,
                "0 1 - - - - -");
        // a shell of a hole's corners alone, which lies outside of it
        due("POLYGON ((0 0, 4 0, 4 4, 0 4, 0 0), (0 0, 4 0, 2 -2, 0 0))", 3, "0 0 0 0 0 1 0");
        due("POLYGON ((0 0, 2 1, 4 0, 4 4, 0 4, 0 0), (0 0, 4 0, 2 -2, 0 0))", 6, "0 0 1 - - - -");
    }

    private static void parts() {
        due("MULTIPOLYGON (((0 0, 4 0, 4 4, 0 0)), ((2 0, 6 0, 6 -4, 2 0)))", 9, "0 0 0 0 1 0 0");
        due("MULTIPOLYGON (((0 0, 4 0, 4 4, 0 4, 0 0)), ((2 2, 6 2, 6 6, 2 6, 2 2)))", 10, "0 0 0 1 1 0 0");
        due("MULTIPOLYGON (((0 0, 4 0, 4 4, 0 0)), EMPTY, ((0 0, 4 0, 4 4, 0 0)))", 9, "0 0 0 0 2 0 0");
        due("MULTIPOLYGON (((9 9, 10 9, 9 10, 9 9)), ((0 0, 9 0, 9 6, 0 6, 0 0), (1 1, 2 1, 2 2, 1 1)), "
                + "((1 5, 2 1, 3 5, 1 5)))", 10, "0 1 1 0 2 0 0");
        due("MULTIPOLYGON (((0 0, 9 0, 9 9, 0 9, 0 0)), ((2 2, 4 2, 4 4, 2 2)))", 11, "0 0 - - 1 - -");
        due("MULTIPOLYGON (((2 2, 4 2, 4 4, 2 2)), EMPTY, ((0 0, 9 0, 9 9, 0 9, 0 0)))", 11, "0 0 - - 2 - -");
        due("MULTIPOLYGON (((0 0, 9 0, 9 9, 0 9, 0 0), (1 1, 3 1, 3 3, 1 3, 1 1)), ((4 4, 6 4, 6 6, 4 4)))", 11,
                "0 0 - - 1 - -");
        due("MULTIPOLYGON (((20 20, 21 20, 21 21, 20 20)), ((0 0, 9 0, 9 9, 0 9, 0 0)), ((0 4, 4 1, 9 4, 4 7, 0 4)))",
                11, "0 1 - - 2 - -");
        // a shell in a hole, touching it at all of its corners
        right("MULTIPOLYGON (((0 0, 9 0, 9 9, 0 9, 0 0), (2 2, 6 2, 6 6, 2 6, 2 2)), ((4 2, 6 4, 4 6, 2 4, 4 2)))");
        // a pair of parts that is wrong by itself comes first
        due("MULTIPOLYGON (((0 0, 4 0, 4 4, 0 0)), ((0 0, 4 0, 4 4, 0 0)), ((0 0, 0 1)))", 1, "0 2 0 - - - -");
    }

    private static void numbered() {
        due("GEOMETRYCOLLECTION (MULTIPOINT (1 1, 2 2), LINESTRING (3 3))", 2, "4 - - - - - -");
        due("GEOMETRYCOLLECTION (POINT (1 1), GEOMETRYCOLLECTION (MULTIPOLYGON (((0 0, 2 0, 2 2, 0 0)), "
                + "((5 5, 6 5, 6 6, 5 5))), POLYGON ((0 0, 4 4, 4 0, 0 4, 0 0))))", 4, "6 0 0 0 0 0 2");
        due("GEOMETRYCOLLECTION (MULTILINESTRING ((0 0, 1 1)), MULTIPOLYGON (((0 0, 2 0, 2 2, 0 0)), ((5 5, 6 5))))",
                1, "3 1 0 - - - -");
        due("GEOMETRYCOLLECTION (LINESTRING (0 0), POLYGON ((0 0)))", 2, "1 - - - - - -");
    }

    private static void states() {
        ShapeWorkshop shop = Bench.with("POLYGON ((0 0, 4 4, 4 0, 0 4, 0 0))", "POINT (0 0)");
        shop.judge(0);
        Bench.due("told", shop.place(6), 2);
        Bench.outcomeDue("judge none", () -> shop.judge(2), Bench.STATE);
        Bench.outcomeDue("judge no slot", () -> shop.judge(32), Bench.INDEX);
        Bench.outcomeDue("judge no slot", () -> shop.judge(-1), Bench.INDEX);
        Bench.due("stays", shop.place(6), 2);
        Bench.outcomeDue("place 7", () -> shop.place(7), Bench.INDEX);
        Bench.outcomeDue("place -1", () -> shop.place(-1), Bench.INDEX);
        Bench.due("right", shop.judge(1), 0);
        for (int what = 0; what < 7; what++) {
            Bench.due("nothing told", shop.place(what), ShapeWorkshop.NONE);
        }
    }

    /** The largest rings there are, and ways as long as they may be. */
    private static void large() {
        StringBuilder saw = new StringBuilder("POLYGON ((0 0");
        for (int i = 1; i < 1000; i++) {
            saw.append(",").append(i).append(i % 2 == 0 ? " 0" : " 9");
        }
        right(saw + ",999 -1,0 -1,0 0))");
        due(saw + ",999 -1,0 1,0 0))", 4, "0 0 0 0 0 0 1000");
        right("POLYGON ((-1000000000 -1000000000, 1000000000 -1000000000, 1000000000 1000000000, "
                + "-1000000000 -1000000000))");
        due("POLYGON ((-1000000000 -1000000000, 1000000000 999999999, 1000000000 1000000000, "
                + "-999999999 -1000000000, -1000000000 1000000000, -1000000000 -1000000000))", 4, "0 0 0 0 0 0 2");
        right("POLYGON ((-1000000000 -1000000000, 1000000000 999999999, 1000000000 1000000000, "
                + "-1000000000 -999999999, -1000000000 -1000000000))");
    }
}
