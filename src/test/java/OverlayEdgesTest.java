/** Promise 16, the edges of pixels: which places are in them, and where a crossing or a side between two belongs. */
public final class OverlayEdgesTest {
    public static void main(String[] args) {
        crossingsAtHalves();
        crossingsNearHalves();
        cornersOfPixels();
        sidesOfPixels();
        endsOnSides();
        alike();
        ordersOfResults();
        farCrossings();
        Bench.close("OverlayEdgesTest");
    }

    private static void due(int what, String one, String two, String want) {
        ShapeWorkshop shop = Bench.with(one, two);
        shop.overlay(what, 0, 1, 2);
        Bench.due("overlay " + what + " " + one + " / " + two, Bench.words(shop, 2), want);
        Bench.due("judged " + want, shop.judge(2), 0);
    }

    /** A bow whose sides cross in the middle of a square of so many units, from its lower left corner. */
    private static void bowDue(int size, int x, int y, int crossX, int crossY) {
        int r = x + size;
        int t = y + size;
        String cross = crossX + " " + crossY;
        due(1, "POLYGON ((" + x + " " + y + "," + r + " " + t + "," + r + " " + y + "," + x + " " + t + "," + x + " "
                + y + "))", "POLYGON EMPTY", "MULTIPOLYGON (((" + x + " " + y + ", " + cross + ", " + x + " " + t + ", "
                + x + " " + y + ")), ((" + cross + ", " + r + " " + y + ", " + r + " " + t + ", " + cross + ")))");
    }

    private static void crossingsAtHalves() {
        for (int x = -5; x <= 2; x++) {
            for (int y = -5; y <= 2; y++) {
                // the middle is a half: it belongs to the larger whole number
                bowDue(3, x, y, x + 2, y + 2);
                bowDue(4, x, y, x + 2, y + 2);
                bowDue(5, x, y, x + 3, y + 3);
            }
        }
    }

    /** An upright side at x = 0 crossed by one of a slope, below a half, at it, above it. */
    private static void crossingsNearHalves() {
        for (int y = -3; y <= 3; y++) {
            // from -10 to 10 the side rises by 2 * rise: it crosses at y + 1/2 less or more a twentieth, or at it
            String[] slopes = {"-9 " + (y - 1) + ",10 " + (y + 2), "-10 " + (y - 1) + ",10 " + (y + 2), "-10 " + (y - 1)
                + ",9 " + (y + 2)};
            int[] due = {y, y + 1, y + 1};
            for (int i = 0; i < 3; i++) {
                String[] ends = slopes[i].split(",");
                ShapeWorkshop shop = Bench.with("POLYGON ((" + slopes[i] + ",0 99," + ends[0] + "))",
                        "POLYGON ((0 -99,0 98,50 -99,0 -99))");
                shop.overlay(0, 0, 1, 2);
                // of what both have the lower left corner is where the upright side is crossed
                Bench.due("crossing of " + slopes[i], shop.ordinate(2, 0, 0) + " " + shop.ordinate(2, 0, 1),
                        "0 " + due[i]);
            }
        }
    }

    /** The side of the first goes by the pixel of 0 0 at a corner: just the lower left one belongs to it. */
    private static void cornersOfPixels() {
        // from the lower left: the side is drawn to 0 0
        due(1, "POLYGON ((-9 -9,4 -5,-5 4,-9 -9))", "POLYGON ((0 0,5 3,3 5,0 0))",
                "MULTIPOLYGON (((-9 -9, 4 -5, 0 0, -5 4, -9 -9)), ((0 0, 5 3, 3 5, 0 0)))");
        due(1, "POLYGON ((-9 -9,1 -5,-2 4,-9 -9))", "POLYGON ((0 0,5 3,3 5,0 0))",
                "MULTIPOLYGON (((-9 -9, 1 -5, 0 0, -2 4, -9 -9)), ((0 0, 5 3, 3 5, 0 0)))");
        due(1, "POLYGON ((-9 -9,4 -2,-5 1,-9 -9))", "POLYGON ((0 0,5 3,3 5,0 0))",
                "MULTIPOLYGON (((-9 -9, 4 -2, 0 0, -5 1, -9 -9)), ((0 0, 5 3, 3 5, 0 0)))");
        // from the upper right
        due(1, "POLYGON ((9 9,-4 5,5 -4,9 9))", "POLYGON ((0 0,-5 -3,-3 -5,0 0))",
                "MULTIPOLYGON (((-5 -3, -3 -5, 0 0, -5 -3)), ((-4 5, 5 -4, 9 9, -4 5)))");
        due(1, "POLYGON ((9 9,-1 5,2 -4,9 9))", "POLYGON ((0 0,-5 -3,-3 -5,0 0))",
                "MULTIPOLYGON (((-5 -3, -3 -5, 0 0, -5 -3)), ((-1 5, 2 -4, 9 9, -1 5)))");
        due(1, "POLYGON ((9 9,-4 2,5 -1,9 9))", "POLYGON ((0 0,-5 -3,-3 -5,0 0))",
                "MULTIPOLYGON (((-5 -3, -3 -5, 0 0, -5 -3)), ((-4 2, 5 -1, 9 9, -4 2)))");
        // from the lower right, and from the upper left
        due(1, "POLYGON ((9 -9,5 4,-4 -5,9 -9))", "POLYGON ((0 0,-3 5,-5 3,0 0))",
                "MULTIPOLYGON (((-5 3, 0 0, -3 5, -5 3)), ((-4 -5, 9 -9, 5 4, -4 -5)))");
        due(1, "POLYGON ((-9 9,-5 -4,4 5,-9 9))", "POLYGON ((0 0,5 -3,3 -5,0 0))",
                "MULTIPOLYGON (((-9 9, -5 -4, 4 5, -9 9)), ((0 0, 3 -5, 5 -3, 0 0)))");
        due(1, "POLYGON ((9 -9,2 4,-1 -5,9 -9))", "POLYGON ((0 0,-3 5,-5 3,0 0))",
                "MULTIPOLYGON (((-5 3, 0 0, -3 5, -5 3)), ((-1 -5, 9 -9, 2 4, -1 -5)))");
        due(1, "POLYGON ((-9 9,-2 -4,1 5,-9 9))", "POLYGON ((0 0,5 -3,3 -5,0 0))",
                "MULTIPOLYGON (((-9 9, -2 -4, 1 5, -9 9)), ((0 0, 3 -5, 5 -3, 0 0)))");
    }

    /** A long flat or steep side, and an end of another above, below, right or left of it. */
    private static void sidesOfPixels() {
        // at x = 3 the side rises from 1/2 less an eighth to 1/2 and more: it meets the pixels of 3 0 and of 3 1
        String flat = "POLYGON ((0 0,6 1,6 -9,0 0))";
        due(1, flat, "POLYGON ((3 1,4 9,2 9,3 1))",
                "MULTIPOLYGON (((0 0, 6 -9, 6 1, 3 1, 0 0)), ((2 9, 3 1, 4 9, 2 9)))");
        // at x = 2 it ends below 1/2, at x = 4 it begins above it
        due(1, flat, "POLYGON ((2 1,4 9,2 9,2 1))",
                "MULTIPOLYGON (((0 0, 6 -9, 6 1, 0 0)), ((2 1, 4 9, 2 9, 2 1)))");
        due(1, flat, "POLYGON ((4 1,5 9,3 9,4 1))",
                "MULTIPOLYGON (((0 0, 6 -9, 6 1, 4 1, 0 0)), ((3 9, 4 1, 5 9, 3 9)))");
        // from the other side: at 5 1/2 it is at 11/12, at 2 1/2 at 5/12
        String above = "POLYGON ((0 0,6 1,0 9,0 0))";
        due(1, above, "POLYGON ((2 0,1 -9,3 -9,2 0))",
                "MULTIPOLYGON (((0 0, 2 0, 6 1, 0 9, 0 0)), ((1 -9, 3 -9, 2 0, 1 -9)))");
        due(1, above, "POLYGON ((3 0,1 -9,3 -9,3 0))",
                "MULTIPOLYGON (((0 0, 3 0, 6 1, 0 9, 0 0)), ((1 -9, 3 -9, 3 0, 1 -9)))");
        due(1, above, "POLYGON ((4 0,1 -9,3 -9,4 0))",
                "MULTIPOLYGON (((0 0, 6 1, 0 9, 0 0)), ((1 -9, 3 -9, 4 0, 1 -9)))");
        // steep ones likewise
        due(1, "POLYGON ((0 0,1 6,-9 6,0 0))", "POLYGON ((1 2,9 2,9 4,1 2))",
                "MULTIPOLYGON (((-9 6, 0 0, 1 6, -9 6)), ((1 2, 9 2, 9 4, 1 2)))");
        due(1, "POLYGON ((0 0,1 6,-9 6,0 0))", "POLYGON ((1 3,9 2,9 4,1 3))",
                "MULTIPOLYGON (((-9 6, 0 0, 1 3, 1 6, -9 6)), ((1 3, 9 2, 9 4, 1 3)))");
        due(1, "POLYGON ((0 0,1 6,9 0,0 0))", "POLYGON ((0 3,-9 4,-9 2,0 3))",
                "MULTIPOLYGON (((-9 2, 0 3, -9 4, -9 2)), ((0 0, 9 0, 1 6, 0 3, 0 0)))");
        due(1, "POLYGON ((0 0,1 6,9 0,0 0))", "POLYGON ((0 4,-9 4,-9 2,0 4))",
                "MULTIPOLYGON (((-9 2, 0 4, -9 4, -9 2)), ((0 0, 9 0, 1 6, 0 0)))");
        // falling ones: at x = 3 from above 1/2 to 1/2, which belongs to 1, to below it
        due(1, "POLYGON ((0 1,6 0,6 9,0 1))", "POLYGON ((3 0,2 -9,4 -9,3 0))",
                "MULTIPOLYGON (((0 1, 3 0, 6 0, 6 9, 0 1)), ((2 -9, 4 -9, 3 0, 2 -9)))");
        due(1, "POLYGON ((0 1,6 0,6 9,0 1))", "POLYGON ((2 0,1 -9,3 -9,2 0))",
                "MULTIPOLYGON (((0 1, 6 0, 6 9, 0 1)), ((1 -9, 3 -9, 2 0, 1 -9)))");
        due(1, "POLYGON ((0 1,6 0,0 -9,0 1))", "POLYGON ((4 1,5 9,3 9,4 1))",
                "MULTIPOLYGON (((0 -9, 6 0, 0 1, 0 -9)), ((3 9, 4 1, 5 9, 3 9)))");
        due(1, "POLYGON ((0 1,6 0,0 -9,0 1))", "POLYGON ((3 1,4 9,2 9,3 1))",
                "MULTIPOLYGON (((0 -9, 6 0, 3 1, 0 1, 0 -9)), ((2 9, 3 1, 4 9, 2 9)))");
    }

    private static void endsOnSides() {
        // an end on a side is hot, so the side has a piece more; straight between others it is no corner
        due(1, "POLYGON ((0 0,9 0,9 9,0 9,0 0))", "POLYGON ((9 3,12 3,12 6,9 3))",
                "MULTIPOLYGON (((0 0, 9 0, 9 9, 0 9, 0 0)), ((9 3, 12 3, 12 6, 9 3)))");
        due(1, "POLYGON ((0 0,9 0,9 9,0 9,0 0))", "POLYGON ((9 3,12 3,12 6,9 6,9 3))",
                "MULTIPOLYGON (((0 0, 9 0, 9 3, 12 3, 12 6, 9 6, 9 9, 0 9, 0 0)))");
        due(2, "POLYGON ((0 0,9 0,9 9,0 9,0 0))", "POLYGON ((9 3,12 3,12 6,9 3))",
                "MULTIPOLYGON (((0 0, 9 0, 9 9, 0 9, 0 0)))");
        // segments without length are ends all the same: a side goes by within half a unit
        due(1, "POLYGON ((0 0,8 1,8 9,0 9,0 0))", "POLYGON ((4 0,4 0))",
                "MULTIPOLYGON (((0 0, 4 0, 8 1, 8 9, 0 9, 0 0)))");
        due(1, "POLYGON ((0 0,8 1,8 9,0 9,0 0))", "POLYGON ((4 0))", "MULTIPOLYGON (((0 0, 8 1, 8 9, 0 9, 0 0)))");
    }

    private static void alike() {
        String square = "((0 0,4 0,4 4,0 4,0 0))";
        String many = square + "," + square;
        due(1, "MULTIPOLYGON (" + many + ")", "POLYGON EMPTY", "MULTIPOLYGON EMPTY");
        due(1, "MULTIPOLYGON (" + many + "," + square + ")", "POLYGON EMPTY",
                "MULTIPOLYGON (((0 0, 4 0, 4 4, 0 4, 0 0)))");
        due(0, "MULTIPOLYGON (" + many + "," + square + ")", "POLYGON ((0 4,4 4,4 0,0 0,0 4))",
                "MULTIPOLYGON (((0 0, 4 0, 4 4, 0 4, 0 0)))");
        due(2, "MULTIPOLYGON (" + many + ")", "POLYGON " + square, "MULTIPOLYGON EMPTY");
        due(4, "MULTIPOLYGON (" + many + ")", "POLYGON " + square, "MULTIPOLYGON (((0 0, 4 0, 4 4, 0 4, 0 0)))");
        // a ring twice round, and one there and back
        due(1, "POLYGON ((0 0,4 0,4 4,0 4,0 0,4 0,4 4,0 4,0 0))", "POLYGON EMPTY", "MULTIPOLYGON EMPTY");
        due(1, "POLYGON ((0 0,4 0,4 4,0 4,0 0,0 4,4 4,4 0,0 0))", "POLYGON EMPTY", "MULTIPOLYGON EMPTY");
        due(1, "POLYGON ((0 0,4 0,9 0,4 0,4 4,0 4,0 0))", "POLYGON EMPTY",
                "MULTIPOLYGON (((0 0, 4 0, 4 4, 0 4, 0 0)))");
        // a side of both is no boundary of one, other and either
        due(3, "POLYGON " + square, "POLYGON ((4 0,8 0,8 4,4 4,4 0))", "MULTIPOLYGON (((0 0, 8 0, 8 4, 0 4, 0 0)))");
        due(0, "POLYGON " + square, "POLYGON ((4 0,8 0,8 4,4 4,4 0))", "MULTIPOLYGON EMPTY");
        due(2, "POLYGON " + square, "POLYGON ((4 0,8 0,8 4,4 4,4 0))", "MULTIPOLYGON (((0 0, 4 0, 4 4, 0 4, 0 0)))");
    }

    private static void ordersOfResults() {
        // by x, then by y, of the first corner; then by the second one; whatever the order of the parts
        String[] parts = {"((0 0,4 1,4 3,0 0))", "((0 0,4 -3,4 -1,0 0))", "((0 -5,1 -5,1 -4,0 -5))",
            "((-1 9,1 9,1 11,-1 9))", "((0 0,4 5,0 6,0 0))"};
        String due = "MULTIPOLYGON (((-1 9, 1 9, 1 11, -1 9)), ((0 -5, 1 -5, 1 -4, 0 -5)), ((0 0, 4 -3, 4 -1, 0 0)), "
                + "((0 0, 4 1, 4 3, 0 0)), ((0 0, 4 5, 0 6, 0 0)))";
        for (int first = 0; first < 5; first++) {
            StringBuilder text = new StringBuilder("MULTIPOLYGON (");
            for (int i = 0; i < 5; i++) {
                text.append(i > 0 ? "," : "").append(parts[(first + 2 * i) % 5]);
            }
            due(1, text + ")", "POLYGON EMPTY", due);
        }
        // holes likewise, also of one first corner
        due(2, "POLYGON ((-9 -9,9 -9,9 9,-9 9,-9 -9))", "MULTIPOLYGON (((0 0,4 1,4 3,0 0)),((-3 5,1 5,1 6,-3 5)),"
                + "((0 0,4 -3,4 -1,0 0)),((0 -5,1 -5,1 -4,0 -5)))",
                "MULTIPOLYGON (((-9 -9, 9 -9, 9 9, -9 9, -9 -9), (-3 5, 1 6, 1 5, -3 5), (0 -5, 1 -4, 1 -5, 0 -5), "
                        + "(0 0, 4 -1, 4 -3, 0 0), (0 0, 4 3, 4 1, 0 0)))");
        // three shells in one another: a hole belongs to the smallest of those that are larger
        String rings = "(0 0,30 0,30 30,0 30,0 0),(1 1,29 1,29 29,1 29,1 1),(2 2,28 2,28 28,2 28,2 2),"
                + "(3 3,27 3,27 27,3 27,3 3),(4 4,26 4,26 26,4 26,4 4),(5 5,25 5,25 25,5 25,5 5)";
        due(1, "POLYGON (" + rings + ")", "POLYGON EMPTY",
                "MULTIPOLYGON (((0 0, 30 0, 30 30, 0 30, 0 0), (1 1, 1 29, 29 29, 29 1, 1 1)), "
                        + "((2 2, 28 2, 28 28, 2 28, 2 2), (3 3, 3 27, 27 27, 27 3, 3 3)), "
                        + "((4 4, 26 4, 26 26, 4 26, 4 4), (5 5, 5 25, 25 25, 25 5, 5 5)))");
        // a hole that has a corner on its shell, and a shell that has all of them on a hole
        due(2, "POLYGON ((0 0,8 0,8 8,0 8,0 0))", "POLYGON ((0 4,4 2,6 4,4 6,0 4))",
                "MULTIPOLYGON (((0 0, 8 0, 8 8, 0 8, 0 0), (0 4, 4 6, 6 4, 4 2, 0 4)))");
        due(3, "POLYGON ((0 0,8 0,8 8,0 8,0 0),(2 2,6 2,6 6,2 6,2 2))", "POLYGON ((2 4,4 2,6 4,4 6,2 4))",
                "MULTIPOLYGON (((0 0, 8 0, 8 8, 0 8, 0 0), (2 2, 2 6, 6 6, 6 2, 2 2)), "
                        + "((2 4, 4 2, 6 4, 4 6, 2 4)))");
        // what is left of a hole beside it
        due(2, "POLYGON ((0 0,8 0,8 8,0 8,0 0),(2 2,6 2,6 6,2 6,2 2))", "POLYGON ((1 4,4 1,7 4,4 7,1 4))",
                "MULTIPOLYGON (((0 0, 8 0, 8 8, 0 8, 0 0), (1 4, 2 5, 2 6, 3 6, 4 7, 5 6, 6 6, 6 5, 7 4, 6 3, 6 2, "
                        + "5 2, 4 1, 3 2, 2 2, 2 3, 1 4)))");
    }

    /** Crossings of the longest sides there are, at halves and by the least there is beside them. */
    private static void farCrossings() {
        int far = 500000000;
        bowDue(2 * far, -far, -far, 0, 0);
        bowDue(2 * far - 1, -far, -far, 0, 0);
        bowDue(2 * far - 1, -far + 1, -far + 1, 1, 1);
        bowDue(2 * far - 1, -far, -far + 1, 0, 1);
        bowDue(2 * far - 3, -far + 3, -far, 2, -1);
        // the slopes 1 and (far - 1) / far from one corner cross nowhere else
        due(0, "POLYGON ((-500000000 -500000000,500000000 500000000,-500000000 500000000,-500000000 -500000000))",
                "POLYGON ((-500000000 -500000000,500000000 -500000000,500000000 499999999,-500000000 -500000000))",
                "MULTIPOLYGON EMPTY");
        // a flat side that rises by one over the whole width: to the left of the middle it goes by 0, from there by 1
        due(0, "POLYGON ((-500000000 0,500000000 1,0 500000000,-500000000 0))",
                "POLYGON ((-1 -500000000,-1 400000000,0 400000000,0 -500000000,-1 -500000000))",
                "MULTIPOLYGON (((-1 0, 0 1, 0 400000000, -1 400000000, -1 0)))");
    }
}
