/** Promises 14 and 15, the edges: which of several faults comes first, few points, the last part, ring and segment. */
public final class JudgeEdgesTest {
    public static void main(String[] args) {
        few();
        ringsBeforePairs();
        orderOfPairs();
        waysThrough();
        besideOneAnother();
        orderOfRest();
        partsInOrder();
        largest();
        farthest();
        placesStay();
        againAndAgain();
        Bench.close("JudgeEdgesTest");
    }

    private static String judged(ShapeWorkshop shop, int slot) {
        StringBuilder got = new StringBuilder().append(shop.judge(slot)).append(':');
        for (int what = 0; what < 7; what++) {
            got.append(' ').append(shop.place(what) == ShapeWorkshop.NONE ? "-" : "" + shop.place(what));
        }
        return got.toString();
    }

    private static void due(String text, String want) {
        String name = text.length() > 200 ? text.substring(0, 60) + ".." : text;
        Bench.due("judged " + name, judged(Bench.with(text), 0), want);
    }

    private static void right(String text) {
        due(text, "0: - - - - - - -");
    }

    private static void few() {
        for (int n = 1; n < 5; n++) {
            due("LINESTRING (" + "3 4,".repeat(n - 1) + "3 4)", "2: 0 - - - - - -");
            right("LINESTRING (" + "3 4,".repeat(n) + "3 5)");
            right("LINESTRING (" + "3 4,".repeat(n) + "4 4)");
            right("LINESTRING (3 4, 5 4" + ", 3 4".repeat(n) + ")");
            due("POLYGON ((" + "3 4,".repeat(n - 1) + "3 4))", "2: 0 0 0 - - - -");
            due("POLYGON ((" + "3 4,".repeat(n) + "4 4," + "4 4,".repeat(n) + "3 4))", "2: 0 0 0 - - - -");
            due("POLYGON ((" + "3 4,4 4,".repeat(n) + "3 4))", "2: 0 0 0 - - - -");
            right("POLYGON ((" + "3 4,".repeat(n) + "4 4,".repeat(n) + "4 5,".repeat(n) + "3 4))");
            // of three points on one line the way back is shared
            due("POLYGON ((" + "3 4,".repeat(n) + "4 4,5 4,3 4))", "3: 0 0 0 " + (n - 1) + " 0 0 " + (n + 1));
        }
        due("POLYGON ((3 4, 3 5))", "1: 0 0 0 - - - -");
        due("POLYGON ((3 4, 4 4, 3 5))", "1: 0 0 0 - - - -");
        due("POLYGON ((3 4, 4 4, 4 5, 2 4))", "1: 0 0 0 - - - -");
        due("POLYGON ((3 4, 4 4, 4 5, 3 3))", "1: 0 0 0 - - - -");
        right("MULTIPOINT EMPTY");
        right("MULTILINESTRING EMPTY");
        right("MULTILINESTRING (EMPTY, EMPTY)");
        right("MULTIPOLYGON EMPTY");
        right("MULTIPOLYGON (EMPTY)");
        right("POLYGON EMPTY");
    }

    private static void ringsBeforePairs() {
        String bow = "(0 0, 4 4, 4 0, 0 4, 0 0)";
        due("POLYGON (" + bow + ", (1 1, 2 2))", "1: 0 0 1 - - - -");
        due("POLYGON (" + bow + ", (1 1, 2 2, 1 1))", "2: 0 0 1 - - - -");
        due("POLYGON (" + bow + ", (1 1, 2 2, 1 1), (1 1, 2 2))", "2: 0 0 1 - - - -");
        due("POLYGON (" + bow + ", (9 9, 10 9, 9 10, 9 9))", "4: 0 0 0 0 0 0 2");
        // in a multipolygon each part is judged whole before the next one
        due("MULTIPOLYGON ((" + bow + "), ((1 1, 2 2)))", "4: 0 0 0 0 0 0 2");
        due("MULTIPOLYGON (((0 0, 9 0, 9 9, 0 9, 0 0), (20 20, 21 20, 20 21, 20 20)), ((1 1, 2 2)))",
                "6: 0 0 1 - - - -");
        due("MULTIPOLYGON (((0 0, 9 0, 9 9, 0 9, 0 0)), ((0 0, 9 0, 9 9, 0 9, 0 0)), ((1 1, 2 2)))",
                "1: 0 2 0 - - - -");
    }

    private static void orderOfPairs() {
        String hole = ", (3 -1, 3 1, 2 1, 3 -1)";
        // the shell's first side is crossed by a hole, its second one by its fourth
        due("POLYGON ((0 0, 8 0, 8 8, 4 -8, 0 8, 0 0)" + hole + ")", "4: 0 0 0 0 0 0 2");
        due("POLYGON ((0 0, 8 0, 8 8, 4 4, 10 4, 0 8, 0 0)" + hole + ")", "4: 0 0 0 0 0 1 0");
        due("POLYGON ((0 0, 8 0, 8 8, 4 4, 10 4, 0 8, 0 0), (1 1, 2 1, 1 2, 1 1))", "4: 0 0 0 1 0 0 3");
        // of one first side the lowest other one
        due("POLYGON ((0 0, 8 0, 8 8, 6 -1, 4 8, 2 -1, 0 8, 0 0))", "4: 0 0 0 0 0 0 2");
        due("POLYGON ((0 0, 8 0, 8 8, 0 8, 0 0), (1 -1, 1 1, 2 1, 2 -1, 1 -1), (4 -1, 5 2, 4 2, 4 -1))",
                "4: 0 0 0 0 0 1 0");
        due("POLYGON ((0 0, 8 0, 8 8, 0 8, 0 0), (1 7, 1 9, 2 7, 1 7), (4 -1, 5 2, 4 2, 4 -1))", "4: 0 0 0 0 0 2 0");
        // touching is right, so the next pair is told
        due("POLYGON ((0 0, 8 0, 8 8, 0 8, 0 0), (4 0, 5 2, 3 2, 4 0), (1 -1, 1 1, 2 1, 1 -1))", "4: 0 0 0 0 0 2 0");
        // points told twice have numbers, but no segments
        due("POLYGON ((0 0, 0 0, 4 4, 4 4, 4 4, 4 0, 0 4, 0 4, 0 0))", "4: 0 0 0 1 0 0 5");
        due("POLYGON ((0 0, 4 0, 4 0, 4 4, 2 0, 2 0, 0 4, 0 0))", "5: 0 0 0 0 0 0 3");
    }

    /** A hole that goes through the shell, in its points or between them, and one that turns back there. */
    private static void waysThrough() {
        String corner = "POLYGON ((0 0, 4 0, 8 0, 8 8, 0 8, 0 0), ";
        String side = "POLYGON ((0 0, 8 0, 8 8, 0 8, 0 0), ";
        due(corner + "(4 4, 4 0, 3 -3, 2 4, 4 4))", "4: 0 0 0 0 0 1 0");
        due(side + "(4 4, 4 0, 3 -3, 2 4, 4 4))", "4: 0 0 0 0 0 1 0");
        due(corner + "(4 4, 4 -4, 2 4, 4 4))", "4: 0 0 0 0 0 1 0");
        due(side + "(4 4, 4 -4, 2 4, 4 4))", "4: 0 0 0 0 0 1 0");
        right(corner + "(4 4, 4 0, 3 4, 4 4))");
        right(side + "(4 4, 4 0, 3 4, 4 4))");
        // turning back outside of the shell does not cross it, but lies not in it
        due("POLYGON ((0 0, 4 0, 8 0, 8 8, 0 8, 0 0), (4 0, 5 -2, 3 -2, 4 0))", "6: 0 0 1 - - - -");
        due("POLYGON ((0 0, 8 0, 8 8, 0 8, 0 0), (4 0, 5 -2, 3 -2, 4 0))", "6: 0 0 1 - - - -");
        // at an inner corner of the shell: on both sides of it, and within
        String notch = "POLYGON ((0 0, 8 0, 8 8, 4 4, 0 8, 0 0), ";
        right(notch + "(4 4, 3 2, 5 2, 4 4))");
        due(notch + "(4 4, 3 9, 5 9, 4 4))", "6: 0 0 1 - - - -");
        due(notch + "(4 4, 4 9, 5 1, 4 4))", "4: 0 0 0 2 0 1 1");
        right(notch + "(4 4, 1 5, 3 2, 7 5, 4 4))");
        right(notch + "(4 4, 1 5, 1 6, 4 4))");
        // the shell the other way round
        String back = "POLYGON ((0 0, 0 8, 4 4, 8 8, 8 0, 0 0), ";
        right(back + "(4 4, 3 2, 5 2, 4 4))");
        due(back + "(4 4, 4 9, 5 1, 4 4))", "4: 0 0 0 1 0 1 2");
        right(back + "(4 4, 1 5, 3 2, 7 5, 4 4))");
    }

    /** One way of a hole along the shell, so that it lies neither left nor right of it. */
    private static void besideOneAnother() {
        String side = "POLYGON ((0 0, 8 0, 8 8, 0 8, 0 0), ";
        // where the shared way ends, one way is to the left: crossed, and told before what is shared when it is lower
        due(side + "(2 0, 4 0, 3 2, 2 0))", "3: 0 0 0 0 0 1 0");
        due(side + "(3 2, 2 0, 4 0, 3 2))", "4: 0 0 0 0 0 1 0");
        due(side + "(3 2, 4 0, 2 0, 3 2))", "4: 0 0 0 0 0 1 0");
        due(side + "(3 -2, 2 0, 4 0, 3 -2))", "3: 0 0 0 0 0 1 1");
        due(side + "(3 -2, 4 0, 2 0, 3 -2))", "3: 0 0 0 0 0 1 1");
        // a whole side alike: neither way of the hole's first pair begins behind the place
        due(side + "(0 0, 8 0, 4 4, 0 0))", "3: 0 0 0 0 0 1 0");
        due(side + "(8 0, 0 0, 4 4, 8 0))", "3: 0 0 0 0 0 1 0");
        due("POLYGON ((0 0, 4 0, 8 0, 8 8, 0 8, 0 0), (3 2, 4 0, 5 0, 3 2))", "4: 0 0 0 0 0 1 0");
        due("POLYGON ((0 0, 4 0, 8 0, 8 8, 0 8, 0 0), (3 -2, 4 0, 5 0, 3 -2))", "3: 0 0 0 1 0 1 1");
    }

    private static void orderOfRest() {
        String shell = "(0 0, 20 0, 20 20, 0 20, 0 0)";
        String nest = "(1 1, 9 1, 9 9, 1 9, 1 1), (2 2, 4 2, 4 4, 2 2)";
        String out = "(30 30, 31 30, 30 31, 30 30)";
        String split = "(0 10, 10 12, 20 10, 10 18, 0 10)";
        due("POLYGON (" + shell + ", " + nest + ", " + out + ")", "6: 0 0 3 - - - -");
        due("POLYGON (" + shell + ", " + split + ", " + nest + ")", "7: 0 0 2 - 0 3 -");
        due("POLYGON (" + shell + ", " + split + ")", "8: 0 0 - - - - -");
        due("POLYGON (" + shell + ", " + split + ", " + out + ")", "6: 0 0 2 - - - -");
        due("POLYGON (" + out + ", " + shell + ")", "6: 0 0 1 - - - -");
        // pairs of holes in their order, whichever of the two lies in the other one
        due("POLYGON (" + shell + ", (2 2, 4 2, 4 4, 2 2), (11 11, 19 11, 19 19, 11 11), (1 1, 9 1, 9 9, 1 9, 1 1), "
                + "(18 12, 18 13, 17 12, 18 12))", "7: 0 0 1 - 0 3 -");
        due("POLYGON (" + shell + ", (18 12, 18 13, 17 12, 18 12), (11 11, 19 11, 19 19, 11 11), "
                + "(1 1, 9 1, 9 9, 1 9, 1 1), (2 2, 4 2, 4 4, 2 2))", "7: 0 0 1 - 0 2 -");
        // a hole all of whose corners are on the shell, outside of it: what is behind its first beginning tells
        String cross = "(0 0, 9 0, 9 9, 6 9, 6 3, 3 3, 3 9, 0 9, 0 0)";
        due("POLYGON (" + cross + ", (3 5, 6 5, 6 7, 3 7, 3 5))", "3: 0 0 0 3 0 1 1");
        due("POLYGON (" + cross + ", (3 5, 6 6, 3 7, 3 5))", "3: 0 0 0 5 0 1 2");
        String jug = "(0 0, 18 0, 18 18, 12 18, 10 12, 12 6, 6 6, 8 12, 6 18, 0 18, 0 0)";
        due("POLYGON (" + jug + ", (8 12, 9 6, 11 9, 8 12))", "6: 0 0 1 - - - -");
        due("POLYGON (" + jug + ", (9 6, 8 12, 11 9, 9 6))", "6: 0 0 1 - - - -");
        due("POLYGON (" + jug + ", (8 12, 12 6, 12 18, 8 12))", "4: 0 0 0 2 0 1 1");
        due("POLYGON (" + jug + ", (12 6, 12 0, 18 12, 12 6))", "8: 0 0 - - - - -");
        // two that touch twice go round, also without the shell
        due("POLYGON (" + shell + ", (5 5, 10 7, 15 5, 10 3, 5 5), (5 5, 10 10, 15 5, 10 14, 5 5))",
                "8: 0 0 - - - - -");
        due("POLYGON (" + shell + ", (5 5, 10 2, 15 5, 5 5), (5 5, 10 10, 15 5, 10 14, 5 5))", "8: 0 0 - - - - -");
        right("POLYGON (" + shell + ", (5 5, 10 2, 15 5, 5 5), (5 5, 10 10, 15 6, 10 14, 5 5))");
        // a row of holes from side to side splits, one that stops short does not
        due("POLYGON (" + shell + ", (0 10, 5 8, 10 10, 5 12, 0 10), (10 10, 15 8, 20 10, 15 12, 10 10))",
                "8: 0 0 - - - - -");
        right("POLYGON (" + shell + ", (0 10, 5 8, 10 10, 5 12, 0 10), (10 10, 15 8, 19 10, 15 12, 10 10))");
        // all at one place go round nowhere
        right("POLYGON (" + shell + ", (0 0, 9 1, 9 2, 0 0), (0 0, 9 3, 9 4, 0 0), (0 0, 9 5, 9 6, 0 0))");
        due("POLYGON (" + shell + ", (0 0, 9 1, 9 2, 0 0), (0 0, 9 3, 9 2, 0 0))", "3: 0 0 1 2 0 2 2");
        due("POLYGON (" + shell + ", (0 0, 9 1, 9 2, 0 0), (0 0, 9 4, 9 2, 5 2, 0 0))", "8: 0 0 - - - - -");
    }

    private static void partsInOrder() {
        String far = "((50 50, 51 50, 50 51, 50 50))";
        String one = "((0 0, 4 0, 4 4, 0 4, 0 0))";
        due("MULTIPOLYGON (" + far + ", EMPTY, " + one + ", ((0 0, 4 0, 4 4, 0 4, 0 0)))", "9: 0 2 0 0 3 0 0");
        // crossed comes before inside, though its parts are later ones
        due("MULTIPOLYGON (((-9 -9, 9 -9, 9 9, -9 9, -9 -9)), " + one + ", ((3 3, 5 3, 5 5, 3 5, 3 3)))",
                "10: 0 1 0 1 2 0 0");
        due("MULTIPOLYGON (((-9 -9, 9 -9, 9 9, -9 9, -9 -9)), " + one + ", " + far + ")", "11: 0 0 - - 1 - -");
        due("MULTIPOLYGON (" + far + ", " + one + ", ((-9 -9, 9 -9, 9 9, -9 9, -9 -9)))", "11: 0 1 - - 2 - -");
        // the first part's first segment, then the other part: ordered by the other one's part, ring, number
        due("MULTIPOLYGON (" + one + ", ((1 3, 2 5, 1 5, 1 3)), ((2 -1, 3 1, 2 1, 2 -1)))", "10: 0 0 0 0 2 0 0");
        due("MULTIPOLYGON (((0 0, 8 0, 8 8, 0 8, 0 0), (2 2, 6 2, 6 6, 2 6, 2 2)), ((3 3, 7 3, 7 5, 3 5, 3 3)))",
                "10: 0 0 1 1 1 0 0");
        // touching in a point is right, passing through it is not
        right("MULTIPOLYGON (" + one + ", ((4 4, 5 4, 5 5, 4 4)), ((4 2, 6 1, 6 3, 4 2)))");
        due("MULTIPOLYGON (" + one + ", ((6 6, 4 4, 2 3, 2 1, 6 6)))", "10: 0 0 0 1 1 0 0");
        due("MULTIPOLYGON (" + one + ", ((6 2, 4 2, 2 3, 2 1, 6 1, 6 2)))", "10: 0 0 0 1 1 0 0");
        // within a hole is not inside, also when it touches the hole everywhere; in a hole's hole part it is
        right("MULTIPOLYGON (((0 0, 8 0, 8 8, 0 8, 0 0), (2 2, 6 2, 6 6, 2 6, 2 2)), ((2 4, 4 2, 6 4, 4 6, 2 4)))");
        right("MULTIPOLYGON (((2 4, 4 2, 6 4, 4 6, 2 4)), ((0 0, 8 0, 8 8, 0 8, 0 0), (2 2, 6 2, 6 6, 2 6, 2 2)))");
        due("MULTIPOLYGON (((0 0, 8 0, 8 8, 0 8, 0 0), (1 1, 2 1, 2 2, 1 1)), ((4 4, 6 4, 6 6, 4 4)))",
                "11: 0 0 - - 1 - -");
        // numbers of shapes: points of a multipoint and parts that are empty count
        due("GEOMETRYCOLLECTION (MULTIPOINT (1 1, EMPTY, 2 2), MULTILINESTRING (EMPTY, (0 0, 1 1)), POLYGON EMPTY, "
                + "MULTIPOLYGON (EMPTY, ((0 0, 4 4, 4 0, 0 4, 0 0)), EMPTY))", "4: 9 1 0 0 1 0 2");
        due("GEOMETRYCOLLECTION (MULTIPOLYGON (((0 0, 4 0, 4 4, 0 0)), EMPTY, ((9 9, 8 9, 8 8, 9 9))), POLYGON "
                + "((0 0, 1 0)), LINESTRING (5 5))", "1: 5 0 0 - - - -");
    }

    private static void largest() {
        // 512 triangles beside one another, as parts, and as holes of one shell
        StringBuilder parts = new StringBuilder("MULTIPOLYGON (");
        StringBuilder rings = new StringBuilder("POLYGON ((-1 -1,9999 -1,9999 9,-1 9,-1 -1)");
        for (int i = 0; i < 512; i++) {
            String ring = "(" + 3 * i + " 0," + (3 * i + 2) + " 0," + 3 * i + " 2," + 3 * i + " 0)";
            parts.append(i > 0 ? "," : "").append("(").append(ring).append(")");
            rings.append(i < 510 ? "," + ring : "");
        }
        right(parts + ")");
        right(rings + ")");
        due(parts.toString().replace("(1533 0,1535 0,1533 2,1533 0)", "(1533 0,1535 0,1531 1,1533 0)") + ")",
                "0: - - - - - - -");
        due(parts.toString().replace("(1533 0,1535 0,1533 2,1533 0)", "(1533 0,1535 0,1530 1,1533 0)") + ")",
                "10: 0 510 0 1 511 0 1");
        due(parts.toString().replace("(1533 0,1535 0,1533 2,1533 0)", "(1533 0,1535 0,1533 2,1533 1)") + ")",
                "1: 0 511 0 - - - -");
        due(rings.toString().replace("(1527 0,1529 0,1527 2,1527 0)", "(1527 0,1529 0,1527 9,1527 0)") + ")",
                "0: - - - - - - -");
        due(rings.toString().replace("(1527 0,1529 0,1527 2,1527 0)", "(1527 0,1529 0,1527 10,1527 0)") + ")",
                "4: 0 0 0 2 0 510 1");
        due("GEOMETRYCOLLECTION (MULTIPOINT (" + "EMPTY,".repeat(1019) + "EMPTY), LINESTRING (7 7))",
                "2: 1022 - - - - - -");
        right("LINESTRING (" + "0 0,".repeat(2047) + "0 1)");
        due("LINESTRING (" + "0 0,".repeat(2047) + "0 0)", "2: 0 - - - - - -");
        StringBuilder saw = new StringBuilder("POLYGON ((0 0");
        for (int i = 1; i < 2045; i++) {
            saw.append(",").append(i).append(i % 2 == 0 ? " 0" : " 1");
        }
        right(saw + ",2044 -1,0 -1,0 0))");
        due(saw + ",2044 -3,2045 -1,0 0))", "4: 0 0 0 2044 0 0 2046");
    }

    private static void farthest() {
        String far = "1000000000";
        String near = "-1000000000";
        String shell = "(" + near + " " + near + ", " + far + " " + near + ", " + far + " " + far + ", " + near + " "
                + far + ", " + near + " " + near + ")";
        right("POLYGON (" + shell + ", (" + near + " " + near + ", 999999999 999999998, 999999998 999999998, "
                + near + " " + near + "))");
        due("POLYGON (" + shell + ", (" + near + " " + near + ", " + far + " " + far + ", 999999998 999999999, "
                + near + " " + near + "))", "8: 0 0 - - - - -");
        // a corner of a hole right of the shell's first side by the least there is, on it, left of it
        String thin = "POLYGON ((-1000000000 -999999999, 1000000000 999999999, 0 1000000000, "
                + "-1000000000 -999999999), (-999999999 -999999998, -5 9, 0 ";
        due(thin + "-1, -999999999 -999999998))", "4: 0 0 0 0 0 1 1");
        right(thin + "0, -999999999 -999999998))");
        right(thin + "1, -999999999 -999999998))");
    }

    private static void placesStay() {
        ShapeWorkshop shop = Bench.with("POLYGON ((0 0, 4 4, 4 0, 0 4, 0 0))", "POINT (1 1)");
        for (int what = 0; what < 7; what++) {
            Bench.due("nothing was judged", shop.place(what), ShapeWorkshop.NONE);
        }
        String bow = judged(shop, 0);
        Bench.due("a bow", bow, "4: 0 0 0 0 0 0 2");
        shop.drop(0);
        shop.copy(1, 0);
        Bench.outcomeDue("judge none", () -> shop.judge(5), Bench.STATE);
        Bench.due("it stays, though its shape is gone", shop.place(6), 2);
        Bench.due("then it is gone", judged(shop, 1), "0: - - - - - - -");
    }

    /** What was judged before leaves nothing behind, however large it was. */
    private static void againAndAgain() {
        StringBuilder saw = new StringBuilder("((0 0");
        for (int i = 1; i < 1020; i++) {
            saw.append(",").append(i).append(i % 2 == 0 ? " 0" : " 1");
        }
        String good = saw + ",1019 -1,0 -1,0 0))";
        String wrong = saw + ",1019 -3,1020 -1,0 0))";
        ShapeWorkshop shop = Bench.with("POLYGON " + good, "POLYGON " + wrong, "MULTIPOLYGON (" + good + ",EMPTY,"
                + wrong + ")", "GEOMETRYCOLLECTION (POLYGON " + good + ",POLYGON " + wrong + ")");
        StringBuilder parts = new StringBuilder("MULTIPOLYGON (((0 0,2 0,0 2,0 0))");
        for (int i = 1; i < 511; i++) {
            parts.append(",((").append(3 * i).append(" 0,").append(3 * i + 2).append(" 0,").append(3 * i).append(" 2,")
                    .append(3 * i).append(" 0))");
        }
        Bench.put(shop, 4, parts + ",((1533 0,1535 0,1530 1,1533 0)))");
        for (int i = 0; i < 5; i++) {
            Bench.due("right again", judged(shop, 0), "0: - - - - - - -");
            Bench.due("the last of many parts again", judged(shop, 4), "10: 0 510 0 1 511 0 1");
            Bench.due("wrong again", judged(shop, 1), "4: 0 0 0 1019 0 0 1021");
            Bench.due("a part wrong again", judged(shop, 2), "4: 0 2 0 1019 2 0 1021");
            Bench.due("the second one wrong again", judged(shop, 3), "4: 2 0 0 1019 0 0 1021");
        }
    }
}
