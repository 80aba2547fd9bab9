/** Promise 16: results told whole, what can't be laid over, and the limits to the last one that is allowed. */
public final class OverlayTest {
    private static final String SQUARE = "POLYGON ((0 0, 10 0, 10 10, 0 10, 0 0))";
    private static final String OTHER = "POLYGON ((5 5, 15 5, 15 15, 5 15, 5 5))";

    public static void main(String[] args) {
        ways();
        shapesOfResults();
        snapping();
        exceptions();
        segmentLimit();
        pixelLimits();
        resultLimit();
        Bench.close("OverlayTest");
    }

    private static void due(int what, String one, String two, String want) {
        ShapeWorkshop shop = Bench.with(one, two);
        int polygons = shop.overlay(what, 0, 1, 2);
        Bench.due("overlay " + what + " " + one + " / " + two, Bench.words(shop, 2), want);
        Bench.due("polygons of " + want, shop.plan(2, 1), polygons);
        Bench.due("judged " + want, shop.judge(2), 0);
    }

    private static void ways() {
        due(0, SQUARE, OTHER, "MULTIPOLYGON (((5 5, 10 5, 10 10, 5 10, 5 5)))");
        due(1, SQUARE, OTHER, "MULTIPOLYGON (((0 0, 10 0, 10 5, 15 5, 15 15, 5 15, 5 10, 0 10, 0 0)))");
        due(2, SQUARE, OTHER, "MULTIPOLYGON (((0 0, 10 0, 10 5, 5 5, 5 10, 0 10, 0 0)))");
        due(3, SQUARE, OTHER, "MULTIPOLYGON (((0 0, 10 0, 10 5, 5 5, 5 10, 0 10, 0 0)), "
                + "((5 10, 10 10, 10 5, 15 5, 15 15, 5 15, 5 10)))");
        due(4, SQUARE, OTHER, "MULTIPOLYGON (((5 10, 10 10, 10 5, 15 5, 15 15, 5 15, 5 10)))");
        due(0, SQUARE, "POLYGON EMPTY", "MULTIPOLYGON EMPTY");
        due(1, "MULTIPOLYGON EMPTY", SQUARE, "MULTIPOLYGON (((0 0, 10 0, 10 10, 0 10, 0 0)))");
        due(3, SQUARE, SQUARE, "MULTIPOLYGON EMPTY");
        due(2, SQUARE, "POLYGON ((2 2, 4 2, 4 4, 2 2))",
                "MULTIPOLYGON (((0 0, 10 0, 10 10, 0 10, 0 0), (2 2, 4 4, 4 2, 2 2)))");
    }

    private static void shapesOfResults() {
        // what is told twice is outside again; other directions and first points do not matter
        due(1, "MULTIPOLYGON (((0 0, 0 4, 4 4, 4 0, 0 0)), ((4 2, 2 2, 2 4, 4 4, 4 2)))", "POLYGON EMPTY",
                "MULTIPOLYGON (((0 0, 4 0, 4 2, 2 2, 2 4, 0 4, 0 0)))");
        due(1, "POLYGON ((0 0, 2 0, 4 0, 4 1, 4 4, 0 4, 0 0))", "POLYGON EMPTY",
                "MULTIPOLYGON (((0 0, 4 0, 4 4, 0 4, 0 0)))");
        // areas that meet in a place alone are two; a hole that touches the shell stays a hole
        due(1, "POLYGON ((0 0, 2 0, 2 2, 0 2, 0 0))", "POLYGON ((2 2, 4 2, 4 4, 2 4, 2 2))",
                "MULTIPOLYGON (((0 0, 2 0, 2 2, 0 2, 0 0)), ((2 2, 4 2, 4 4, 2 4, 2 2)))");
        due(2, "POLYGON ((0 0, 8 0, 8 8, 0 8, 0 0))", "POLYGON ((4 0, 6 2, 4 4, 2 2, 4 0))",
                "MULTIPOLYGON (((0 0, 8 0, 8 8, 0 8, 0 0), (2 2, 4 4, 6 2, 4 0, 2 2)))");
        due(2, "POLYGON ((0 0, 8 0, 8 8, 0 8, 0 0))", "POLYGON ((4 0, 6 4, 4 8, 2 4, 4 0))",
                "MULTIPOLYGON (((0 0, 4 0, 2 4, 4 8, 0 8, 0 0)), ((4 0, 8 0, 8 8, 4 8, 6 4, 4 0)))");
        // two holes that touch
        due(2, "POLYGON ((0 0, 9 0, 9 9, 0 9, 0 0))", "MULTIPOLYGON (((1 1, 4 1, 4 4, 1 4, 1 1)), "
                + "((4 4, 6 4, 6 6, 4 6, 4 4)))",
                "MULTIPOLYGON (((0 0, 9 0, 9 9, 0 9, 0 0), (1 1, 1 4, 4 4, 4 1, 1 1), (4 4, 4 6, 6 6, 6 4, 4 4)))");
        // an island in a hole comes in its order, its hole with it
        due(3, "POLYGON ((0 0, 20 0, 20 20, 0 20, 0 0), (2 2, 18 2, 18 18, 2 18, 2 2))",
                "POLYGON ((4 4, 16 4, 16 16, 4 16, 4 4), (6 6, 14 6, 14 14, 6 14, 6 6))",
                "MULTIPOLYGON (((0 0, 20 0, 20 20, 0 20, 0 0), (2 2, 2 18, 18 18, 18 2, 2 2)), "
                        + "((4 4, 16 4, 16 16, 4 16, 4 4), (6 6, 6 14, 14 14, 14 6, 6 6)))");
        // one first corner, told apart by the second
        due(1, "MULTIPOLYGON (((0 0, 4 1, 4 3, 0 0)), ((0 0, 4 -3, 4 -1, 0 0)))", "POLYGON EMPTY",
                "MULTIPOLYGON (((0 0, 4 -3, 4 -1, 0 0)), ((0 0, 4 1, 4 3, 0 0)))");
        // a bow tie
        due(1, "POLYGON ((0 0, 4 4, 4 0, 0 4, 0 0))", "POLYGON EMPTY",
                "MULTIPOLYGON (((0 0, 2 2, 0 4, 0 0)), ((2 2, 4 0, 4 4, 2 2)))");
    }

    private static void snapping() {
        // the crossing at 1.5 1.5 lies in the pixel of 2 2
        due(1, "POLYGON ((0 0, 3 3, 3 0, 0 3, 0 0))", "POLYGON EMPTY",
                "MULTIPOLYGON (((0 0, 2 2, 0 3, 0 0)), ((2 2, 3 0, 3 3, 2 2)))");
        // at -1.5 -1.5 in that of -1 -1
        due(1, "POLYGON ((0 0, -3 -3, -3 0, 0 -3, 0 0))", "POLYGON EMPTY",
                "MULTIPOLYGON (((-3 -3, -1 -1, -3 0, -3 -3)), ((-1 -1, 0 -3, 0 0, -1 -1)))");
        // a side is drawn to an end of another that lies within half a unit: below 1/2, not at it
        due(1, "POLYGON ((0 0, 9 1, 9 9, 0 9, 0 0))", "POLYGON ((4 0, 5 -5, 3 -5, 4 0))",
                "MULTIPOLYGON (((0 0, 4 0, 9 1, 9 9, 0 9, 0 0)), ((3 -5, 5 -5, 4 0, 3 -5)))");
        due(1, "POLYGON ((0 0, 8 1, 8 9, 0 9, 0 0))", "POLYGON ((4 0, 5 -5, 3 -5, 4 0))",
                "MULTIPOLYGON (((0 0, 4 0, 8 1, 8 9, 0 9, 0 0)), ((3 -5, 5 -5, 4 0, 3 -5)))");
        due(1, "POLYGON ((0 0, 2 1, 2 9, 0 9, 0 0))", "POLYGON ((1 0, 2 -5, 0 -5, 1 0))",
                "MULTIPOLYGON (((0 -5, 2 -5, 1 0, 0 -5)), ((0 0, 1 0, 2 1, 2 9, 0 9, 0 0)))");
        due(1, "POLYGON ((0 0, 2 1, 2 9, 0 9, 0 0))", "POLYGON ((1 1, 0 2, 1 2, 1 1))",
                "MULTIPOLYGON (((0 0, 1 1, 2 1, 2 9, 0 9, 0 0)))");
        // what is thinner than a pixel is gone
        due(1, "POLYGON ((0 0, 100 1, 100 0, 50 0, 0 0))", "POLYGON ((0 0, 0 1, 50 0, 0 0))",
                Bench.words(thin(), 2));
        due(1, "POLYGON ((0 0, 500000000 1, 499999999 1, 0 0))", "POLYGON EMPTY", "MULTIPOLYGON EMPTY");
        due(1, "POLYGON ((-500000000 0, 500000000 3, 499999999 5, -500000000 0))", "POLYGON EMPTY",
                "MULTIPOLYGON (((-500000000 0, 500000000 3, 499999999 5, -500000000 0)))");
        due(0, "POLYGON ((-500000000 -500000000, 500000000 499999999, 500000000 500000000, -500000000 -500000000))",
                "POLYGON ((-500000000 500000000, 500000000 -499999999, 500000000 -500000000, -500000000 500000000))",
                "MULTIPOLYGON EMPTY");
    }

    private static ShapeWorkshop thin() {
        return Bench.with("POLYGON EMPTY", "POLYGON EMPTY",
                "MULTIPOLYGON (((0 0, 33 0, 0 1, 0 0)), ((50 0, 100 0, 100 1, 50 0)))");
    }

    private static void exceptions() {
        ShapeWorkshop shop = Bench.with(SQUARE, "LINESTRING (0 0, 1 1)", "POLYGON ((0 0, 1 0, 1 1))",
                "POLYGON ((0 0, 500000001 0, 1 1, 0 0))", "GEOMETRYCOLLECTION (" + SQUARE + ")",
                "MULTIPOLYGON (EMPTY, ((0 0)))", "POLYGON ((0 0, 0 -500000001, 1 1, 0 0))", "MULTIPOINT EMPTY");
        Bench.put(shop, 9, "POINT (7 7)");
        for (int wrong : new int[] {1, 2, 3, 4, 6, 7}) {
            Bench.outcomeDue("overlay with " + wrong, () -> shop.overlay(0, 0, wrong, 9), Bench.ARGUMENT);
            Bench.outcomeDue("overlay of " + wrong, () -> shop.overlay(0, wrong, 0, 9), Bench.ARGUMENT);
        }
        Bench.outcomeDue("overlay 5", () -> shop.overlay(5, 0, 0, 9), Bench.ARGUMENT);
        Bench.outcomeDue("overlay -1", () -> shop.overlay(-1, 0, 0, 9), Bench.ARGUMENT);
        Bench.outcomeDue("none, way 5", () -> shop.overlay(5, 0, 20, 9), Bench.STATE);
        Bench.outcomeDue("none first", () -> shop.overlay(0, 20, 0, 9), Bench.STATE);
        for (int slot : new int[] {-1, 32, Integer.MIN_VALUE, Integer.MAX_VALUE}) {
            Bench.outcomeDue("slot", () -> shop.overlay(5, slot, 20, 9), Bench.INDEX);
            Bench.outcomeDue("other", () -> shop.overlay(5, 20, slot, 9), Bench.INDEX);
            Bench.outcomeDue("to", () -> shop.overlay(5, 20, 20, slot), Bench.INDEX);
        }
        Bench.due("slot to stays", Bench.words(shop, 9), "POINT (7 7)");
        Bench.due("a ring of one point is closed", shop.overlay(1, 0, 5, 0), 1);
        Bench.due("onto itself", Bench.words(shop, 0), "MULTIPOLYGON (((0 0, 10 0, 10 10, 0 10, 0 0)))");
    }

    /** A saw of so many segments on a level line. */
    private static String saw(int segments) {
        StringBuilder text = new StringBuilder("POLYGON ((0 -1");
        for (int i = 1; i < segments - 1; i++) {
            text.append(',').append(i).append(i % 2 == 0 ? " 0" : " 1");
        }
        return text.append(',').append(segments - 1).append(" -1,0 -1))").toString();
    }

    private static void segmentLimit() {
        ShapeWorkshop shop = Bench.with(saw(1024), saw(1024), saw(1025));
        Bench.put(shop, 3, "POLYGON ((5 5, 5 5))");
        Bench.due("segments", shop.count(0, 1) - 1, 1024);
        Bench.due("2048 segments", shop.overlay(3, 0, 1, 9), 0);
        Bench.due("of one slot twice", shop.overlay(1, 0, 0, 9), 1);
        Bench.outcomeDue("2049 segments", () -> shop.overlay(0, 0, 2, 9), Bench.TOO_MUCH);
        Bench.outcomeDue("2050 segments", () -> shop.overlay(0, 2, 2, 9), Bench.TOO_MUCH);
        Bench.due("slot to stays", shop.plan(9, 1), 1);
        Bench.put(shop, 4, saw(1024).replace("))", "), (5 5, 5 5))"));
        Bench.outcomeDue("one without length counts", () -> shop.overlay(0, 0, 4, 9), Bench.TOO_MUCH);
        Bench.outcomeDue("so it does before others", () -> shop.overlay(0, 4, 0, 9), Bench.TOO_MUCH);
    }

    /** Bars: so many boxes beside one another, standing or lying, each of four segments. */
    private static String bars(int n, boolean standing) {
        StringBuilder text = new StringBuilder();
        for (int i = 0; i < n; i++) {
            int a = 4 * i;
            int b = a + 2;
            text.append(i > 0 ? "," : "").append(standing
                    ? "((" + a + " -9," + b + " -9," + b + " 400," + a + " 400," + a + " -9))"
                    : "((-9 " + a + ",400 " + a + ",400 " + b + ",-9 " + b + ",-9 " + a + "))");
        }
        return text.toString();
    }

    /** Rings of one segment without length, at so many places, and so many more at the first of them. */
    private static String lengthless(int places, int more) {
        StringBuilder text = new StringBuilder();
        for (int i = 0; i < places + more; i++) {
            String place = i < places ? 700 + i + " 700" : "700 700";
            text.append(",((").append(place).append(",").append(place).append("))");
        }
        return text.toString();
    }

    /**
     * 44 and 44 bars have 4 * 44 * 44 crossings, in two chains each, and 352 corners, in two chains each; with the
     * three of a triangle 8099 hot pixels and 16198 places.
     */
    private static void pixelLimits() {
        limit(44, 44, 0, 0, true);
        limit(44, 44, 93, 0, true);
        limit(44, 44, 94, 0, false);
        limit(44, 44, 93, 93, true);
        limit(44, 44, 93, 94, false);
        limit(44, 44, 1, 185, true);
        limit(44, 44, 1, 186, false);
        limit(44, 45, 0, 0, false);
        limit(60, 60, 0, 0, false);
    }

    /** Of what is in the triangle alone the result is small. */
    private static void limit(int standing, int lying, int places, int more, boolean fits) {
        ShapeWorkshop shop = Bench.with("MULTIPOLYGON (" + bars(standing, true) + "," + bars(lying, false)
                + lengthless(places, more) + ")", "POLYGON ((900 900, 901 900, 901 901, 900 900))", "POINT (7 7)");
        String name = standing + " and " + lying + " bars, " + places + " and " + more;
        Bench.outcomeDue(name, () -> shop.overlay(4, 0, 1, 2), fits ? "1" : Bench.TOO_MUCH);
        Bench.due(name, Bench.words(shop, 2),
                fits ? "MULTIPOLYGON (((900 900, 901 900, 901 901, 900 900)))" : "POINT (7 7)");
        Bench.outcomeDue(name + ": more than a shape may be", () -> shop.overlay(1, 0, 1, 2), Bench.TOO_MUCH);
    }

    private static void resultLimit() {
        for (int n : new int[] {8, 20, 21, 22}) {
            ShapeWorkshop shop = Bench.with("MULTIPOLYGON (" + bars(n, true) + ")",
                    "MULTIPOLYGON (" + bars(n, false) + ")");
            if (5 * n * n <= 2048) {
                Bench.due("squares", shop.overlay(0, 0, 1, 2), n * n);
                Bench.due("points", shop.count(2, 1), 5 * n * n);
            } else {
                Bench.outcomeDue("too many squares", () -> shop.overlay(0, 0, 1, 2), Bench.TOO_MUCH);
            }
        }
    }
}
