/** Promises 20 to 22: hulls, triangles and simpler shapes, their edges and limits. */
public final class PointsTest {
    public static void main(String[] args) {
        hulls();
        triangles();
        manyPoints();
        simpler();
        exceptions();
        Bench.close("PointsTest");
    }

    private static void hullDue(String text, int corners, String want) {
        ShapeWorkshop shop = Bench.with(text);
        Bench.due("corners of " + text, shop.hull(0, 1), corners);
        Bench.due("hull of " + text, Bench.words(shop, 1), want);
        Bench.due("hull onto itself", shop.hull(0, 0), corners);
        Bench.due("the same", shop.same(0, 1), true);
    }

    private static void hulls() {
        hullDue("POINT EMPTY", 0, "GEOMETRYCOLLECTION EMPTY");
        hullDue("MULTIPOINT (3 4, EMPTY, 3 4)", 1, "POINT (3 4)");
        hullDue("MULTIPOINT (5 5, 1 1, 3 3)", 2, "LINESTRING (1 1, 5 5)");
        hullDue("LINESTRING (2 9, 2 3, 2 5)", 2, "LINESTRING (2 3, 2 9)");
        hullDue("MULTIPOINT (0 0, 4 0, 4 4, 0 4, 2 2, 2 0, 4 2)", 4, "POLYGON ((0 0, 4 0, 4 4, 0 4, 0 0))");
        hullDue("POLYGON ((4 4, 0 4, 0 0, 4 4), (9 9, 1 2))", 3, "POLYGON ((0 0, 9 9, 0 4, 0 0))");
        hullDue("GEOMETRYCOLLECTION (POINT (0 0), MULTILINESTRING ((7 1, 3 3), EMPTY))", 3,
                "POLYGON ((0 0, 7 1, 3 3, 0 0))");
        hullDue("MULTIPOINT (-1000000000 -1000000000, 1000000000 1000000000, 999999999 999999999, 0 0, "
                + "1000000000 999999999)", 3, "POLYGON ((-1000000000 -1000000000, 1000000000 999999999, "
                + "1000000000 1000000000, -1000000000 -1000000000))");
    }

    private static void trianglesDue(String text, int count, String want) {
        ShapeWorkshop shop = Bench.with(text);
        Bench.due("triangles of " + text, shop.triangles(0, 1), count);
        Bench.due("triangles of " + text, Bench.words(shop, 1), want);
    }

    private static void triangles() {
        trianglesDue("POINT EMPTY", 0, "MULTIPOLYGON EMPTY");
        trianglesDue("MULTIPOINT (0 0, 1 1, 2 2, 3 3)", 0, "MULTIPOLYGON EMPTY");
        trianglesDue("MULTIPOINT (0 0, 1 0, 0 0, 0 1)", 1, "MULTIPOLYGON (((0 0, 1 0, 0 1, 0 0)))");
        trianglesDue("MULTIPOINT (0 1, 1 0, 0 0)", 1, "MULTIPOLYGON (((0 1, 0 0, 1 0, 0 1)))");
        // four on one circle: both from the least
        trianglesDue("MULTIPOINT (2 2, 0 2, 2 0, 0 0)", 2,
                "MULTIPOLYGON (((2 2, 0 2, 0 0, 2 2)), ((2 2, 0 0, 2 0, 2 2)))");
        trianglesDue("MULTIPOINT (0 0, 2 0, 2 2, 0 2, 1 1)", 4, "MULTIPOLYGON (((0 0, 2 0, 1 1, 0 0)), "
                + "((0 0, 1 1, 0 2, 0 0)), ((2 0, 2 2, 1 1, 2 0)), ((2 2, 0 2, 1 1, 2 2)))");
        // eight on one circle, the least being -5 0
        trianglesDue("MULTIPOINT (5 0, 3 4, -3 4, -5 0, -3 -4, 3 -4)", 4, "MULTIPOLYGON (((5 0, 3 4, -5 0, 5 0)), "
                + "((5 0, -5 0, 3 -4, 5 0)), ((3 4, -3 4, -5 0, 3 4)), ((-5 0, -3 -4, 3 -4, -5 0)))");
        trianglesDue("MULTIPOINT (0 0, 1 0, 2 0, 3 0, 1 5)", 3, "MULTIPOLYGON (((0 0, 1 0, 1 5, 0 0)), "
                + "((1 0, 2 0, 1 5, 1 0)), ((2 0, 3 0, 1 5, 2 0)))");
        trianglesDue("MULTIPOINT (-1000000000 -1000000000, 1000000000 -1000000000, 1000000000 1000000000, "
                + "-1000000000 1000000000)", 2, "MULTIPOLYGON (((-1000000000 -1000000000, 1000000000 -1000000000, "
                + "1000000000 1000000000, -1000000000 -1000000000)), ((-1000000000 -1000000000, "
                + "1000000000 1000000000, -1000000000 1000000000, -1000000000 -1000000000)))");
        // not on one circle by the least there is
        trianglesDue("MULTIPOINT (-1000000000 -1000000000, 1000000000 -1000000000, 1000000000 999999999, "
                + "-1000000000 1000000000)", 2, "MULTIPOLYGON (((-1000000000 -1000000000, 1000000000 -1000000000, "
                + "1000000000 999999999, -1000000000 -1000000000)), ((-1000000000 -1000000000, "
                + "1000000000 999999999, -1000000000 1000000000, -1000000000 -1000000000)))");
    }

    /** So many points on a line, and some more. */
    private static String row(int n, String more) {
        StringBuilder text = new StringBuilder("LINESTRING (0 0");
        for (int i = 1; i < n; i++) {
            text.append(",").append(i).append(" 0");
        }
        return text.append(more).append(")").toString();
    }

    private static void manyPoints() {
        ShapeWorkshop shop = Bench.with(row(1024, ",5 0,7 0"), row(1025, ""), row(513, ",5 5"), row(514, ",5 5"));
        Bench.put(shop, 9, "POINT (7 7)");
        Bench.due("1024 places, some twice", shop.hull(0, 5), 2);
        Bench.due("their hull", Bench.words(shop, 5), "LINESTRING (0 0, 1023 0)");
        Bench.due("no triangles", shop.triangles(0, 5), 0);
        Bench.outcomeDue("1025 places", () -> shop.hull(1, 9), Bench.TOO_MUCH);
        Bench.outcomeDue("1025 places", () -> shop.triangles(1, 9), Bench.TOO_MUCH);
        Bench.due("512 triangles", shop.triangles(2, 5), 512);
        Bench.due("their points", shop.count(5, 1), 2048);
        Bench.due("all there", shop.area(5), 512 * 5);
        Bench.outcomeDue("513 triangles", () -> shop.triangles(3, 9), Bench.TOO_MUCH);
        Bench.due("slot to stays", Bench.words(shop, 9), "POINT (7 7)");
        Bench.put(shop, 0, row(1023, ",5 5"));
        Bench.outcomeDue("1022 triangles", () -> shop.triangles(0, 9), Bench.TOO_MUCH);
        Bench.due("1024 places off a line", shop.hull(0, 9), 3);
        // a grid of 16 * 16 has 450 triangles, of 17 * 17 has 512, of 17 * 18 too many
        for (int h = 16; h <= 18; h++) {
            int w = Math.min(h, 17);
            StringBuilder text = new StringBuilder("LINESTRING (");
            for (int i = 0; i < w * h; i++) {
                text.append(i > 0 ? "," : "").append(i % w).append(' ').append(i / w);
            }
            ShapeWorkshop grid = Bench.with(text + ")");
            Bench.outcomeDue("grid " + h, () -> grid.triangles(0, 1), h == 18 ? Bench.TOO_MUCH : 2 * (w - 1) * (h - 1));
            Bench.due("hull of a grid", grid.hull(0, 2), 4);
        }
    }

    private static void simplerDue(String text, int distance, int leftOut, String want) {
        ShapeWorkshop shop = Bench.with(text);
        Bench.due("left out of " + text, shop.simplify(0, 1, distance), leftOut);
        Bench.due("simpler by " + distance + " " + text, Bench.words(shop, 1), want);
        Bench.due("onto itself", shop.simplify(0, 0, distance), leftOut);
        Bench.due("the same", shop.same(0, 1), true);
    }

    private static void simpler() {
        simplerDue("POINT EMPTY", 5, 0, "POINT EMPTY");
        simplerDue("MULTIPOINT (1 1, 1 1)", 9, 0, "MULTIPOINT ((1 1), (1 1))");
        simplerDue("LINESTRING EMPTY", 0, 0, "LINESTRING EMPTY");
        simplerDue("LINESTRING (1 1)", 0, 0, "LINESTRING (1 1)");
        simplerDue("LINESTRING (1 1, 1 1)", 9, 0, "LINESTRING (1 1, 1 1)");
        simplerDue("LINESTRING (0 0, 1 0, 2 0)", 0, 1, "LINESTRING (0 0, 2 0)");
        simplerDue("LINESTRING (0 0, 1 1, 2 0)", 0, 0, "LINESTRING (0 0, 1 1, 2 0)");
        simplerDue("LINESTRING (0 0, 5 3, 10 0)", 3, 1, "LINESTRING (0 0, 10 0)");
        simplerDue("LINESTRING (0 0, 5 3, 10 0)", 2, 0, "LINESTRING (0 0, 5 3, 10 0)");
        // beyond the ends the distance is that from the end
        simplerDue("LINESTRING (0 0, -3 4, 10 0)", 4, 0, "LINESTRING (0 0, -3 4, 10 0)");
        simplerDue("LINESTRING (0 0, -3 4, 10 0)", 5, 1, "LINESTRING (0 0, 10 0)");
        simplerDue("LINESTRING (0 0, 13 4, 10 0)", 4, 0, "LINESTRING (0 0, 13 4, 10 0)");
        simplerDue("LINESTRING (0 0, 13 4, 10 0)", 5, 1, "LINESTRING (0 0, 10 0)");
        // of two as far the first stays, and then the second is near
        simplerDue("LINESTRING (0 0, 2 4, 8 4, 10 0)", 3, 1, "LINESTRING (0 0, 2 4, 10 0)");
        simplerDue("LINESTRING (0 0, 2 4, 8 -4, 10 0)", 3, 0, "LINESTRING (0 0, 2 4, 8 -4, 10 0)");
        simplerDue("LINESTRING (0 0, 5 5, 0 0)", 7, 0, "LINESTRING (0 0, 5 5, 0 0)");
        simplerDue("LINESTRING (0 0, 5 5, 0 0)", 8, 1, "LINESTRING (0 0, 0 0)");
        simplerDue("POLYGON ((0 0, 5 0, 10 0, 10 10, 0 10, 0 0), (3 3, 4 3, 4 4, 3 3))", 2, 3,
                "POLYGON ((0 0, 10 0, 10 10, 0 10, 0 0), (3 3, 3 3))");
        simplerDue("GEOMETRYCOLLECTION (MULTILINESTRING ((0 0, 1 0, 2 0), EMPTY), POINT (3 3), "
                + "MULTIPOLYGON (((0 0, 1 1, 2 2, 0 9, 0 0)), EMPTY))", 0, 2, "GEOMETRYCOLLECTION (MULTILINESTRING "
                + "((0 0, 2 0), EMPTY), POINT (3 3), MULTIPOLYGON (((0 0, 2 2, 0 9, 0 0)), EMPTY))");
        simplerDue("LINESTRING (-1000000000 -1000000000, 0 1, 1000000000 1000000000)", 0, 0,
                "LINESTRING (-1000000000 -1000000000, 0 1, 1000000000 1000000000)");
        simplerDue("LINESTRING (-1000000000 -1000000000, 0 1, 1000000000 1000000000)", 1, 1,
                "LINESTRING (-1000000000 -1000000000, 1000000000 1000000000)");
        simplerDue("LINESTRING (-1000000000 0, 0 1000000000, 1000000000 0)", 1000000000, 1,
                "LINESTRING (-1000000000 0, 1000000000 0)");
        simplerDue("LINESTRING (-1000000000 0, 0 1000000000, 1000000000 0)", 999999999, 0,
                "LINESTRING (-1000000000 0, 0 1000000000, 1000000000 0)");
        // each point between is farther than the ones before: as many steps as points
        StringBuilder curve = new StringBuilder("LINESTRING (0 0");
        for (int i = 1; i < 1000; i++) {
            curve.append(", ").append(i).append(' ').append(i * i);
        }
        simplerDue(curve + ")", 0, 0, curve + ")");
    }

    private static void exceptions() {
        ShapeWorkshop shop = Bench.with("LINESTRING (0 0, 1 0, 2 0)");
        Bench.outcomeDue("simplify -1", () -> shop.simplify(0, 1, -1), Bench.ARGUMENT);
        Bench.outcomeDue("simplify far", () -> shop.simplify(0, 1, 1000000001), Bench.ARGUMENT);
        Bench.outcomeDue("simplify none", () -> shop.simplify(5, 1, -1), Bench.STATE);
        Bench.outcomeDue("hull of none", () -> shop.hull(5, 0), Bench.STATE);
        Bench.outcomeDue("triangles of none", () -> shop.triangles(5, 0), Bench.STATE);
        for (int slot : new int[] {-1, 32, Integer.MIN_VALUE, Integer.MAX_VALUE}) {
            Bench.outcomeDue("simplify", () -> shop.simplify(slot, 5, -1), Bench.INDEX);
            Bench.outcomeDue("simplify to", () -> shop.simplify(5, slot, -1), Bench.INDEX);
            Bench.outcomeDue("hull", () -> shop.hull(slot, 0), Bench.INDEX);
            Bench.outcomeDue("hull to", () -> shop.hull(5, slot), Bench.INDEX);
            Bench.outcomeDue("triangles", () -> shop.triangles(slot, 0), Bench.INDEX);
            Bench.outcomeDue("triangles to", () -> shop.triangles(5, slot), Bench.INDEX);
        }
        Bench.due("nothing came of it", shop.count(0, 4), 1);
        Bench.due("stays", Bench.words(shop, 0), "LINESTRING (0 0, 1 0, 2 0)");
    }
}
