/** Promises 11 to 13, 23, 24 and 28 to 30: slots, plans and points, areas and bounds. */
public final class SlotsTest {
    private static final int[] NO_SLOTS = {-1, 32, Integer.MIN_VALUE, Integer.MAX_VALUE};

    public static void main(String[] args) {
        copies();
        plans();
        areas();
        bounds();
        Bench.close("SlotsTest");
    }

    private static void copies() {
        ShapeWorkshop shop = Bench.with("LINESTRING (1 2, 3 4)", "POINT EMPTY");
        Bench.due("copy", shop.copy(0, 31), 2);
        Bench.due("same", shop.same(0, 31), true);
        Bench.due("same other way", shop.same(31, 0), true);
        Bench.due("same with itself", shop.same(0, 0), true);
        Bench.due("not the same", shop.same(0, 1), false);
        Bench.due("with none", shop.same(0, 2), false);
        Bench.due("none with one", shop.same(2, 1), false);
        Bench.due("both none", shop.same(2, 3), true);
        Bench.due("copy onto itself", shop.copy(0, 0), 2);
        Bench.due("copy over another", shop.copy(1, 31), 1);
        Bench.due("no longer the same", shop.same(0, 31), false);
        Bench.due("the first stays", Bench.words(shop, 0), "LINESTRING (1 2, 3 4)");
        Bench.outcomeDue("copy none", () -> shop.copy(5, 0), Bench.STATE);
        Bench.due("stays", shop.count(0, 1), 2);
        Bench.due("slots with shapes", shop.count(7, 4), 3);
        Bench.due("drop", shop.drop(31), true);
        Bench.due("drop again", shop.drop(31), false);
        Bench.due("slots with shapes", shop.count(7, 4), 2);
        Bench.put(shop, 4, "LINESTRING (1 2, 3 5)");
        Bench.due("other y", shop.same(0, 4), false);
        Bench.put(shop, 4, "LINESTRING (0 2, 3 4)");
        Bench.due("other x", shop.same(0, 4), false);
        Bench.put(shop, 4, "MULTIPOINT (1 2, 3 4)");
        Bench.due("other plan", shop.same(0, 4), false);
        Bench.put(shop, 4, "POLYGON EMPTY");
        Bench.due("both empty, other kinds", shop.same(1, 4), false);
        for (int slot : NO_SLOTS) {
            Bench.outcomeDue("copy from", () -> shop.copy(slot, 0), Bench.INDEX);
            Bench.outcomeDue("copy to", () -> shop.copy(0, slot), Bench.INDEX);
            Bench.outcomeDue("copy none to", () -> shop.copy(9, slot), Bench.INDEX);
            Bench.outcomeDue("drop", () -> shop.drop(slot) ? 1 : 0, Bench.INDEX);
            Bench.outcomeDue("same", () -> shop.same(slot, 0) ? 1 : 0, Bench.INDEX);
            Bench.outcomeDue("same", () -> shop.same(0, slot) ? 1 : 0, Bench.INDEX);
            Bench.outcomeDue("writeWords", () -> shop.writeWords(slot), Bench.INDEX);
            Bench.outcomeDue("writeBytes", () -> shop.writeBytes(slot, 7), Bench.INDEX);
        }
        Bench.outcomeDue("writeBytes of none", () -> shop.writeBytes(9, 7), Bench.STATE);
        Bench.outcomeDue("writeBytes in order 2", () -> shop.writeBytes(0, 2), Bench.ARGUMENT);
        Bench.outcomeDue("writeBytes in order -1", () -> shop.writeBytes(0, -1), Bench.ARGUMENT);
    }

    private static void plans() {
        ShapeWorkshop shop = Bench.with("GEOMETRYCOLLECTION (POINT (1 2), POLYGON ((1 1, 2 2), (3 3)), "
                + "MULTIPOINT (5 6, EMPTY), GEOMETRYCOLLECTION EMPTY, MULTILINESTRING ((7 8, 9 10), EMPTY), "
                + "MULTIPOLYGON (EMPTY, ((0 0))), LINESTRING EMPTY)");
        int[] due = {7, 7, 1, 1, 3, 2, 2, 1, 4, 2, 1, 1, 1, 0, 7, 0, 5, 2, 2, 2, 2, 0, 6, 2, 3, 0, 3, 1, 1, 2, 0};
        Bench.due("plan's length", shop.count(0, 0), due.length);
        for (int i = 0; i < due.length; i++) {
            Bench.due("plan " + i, shop.plan(0, i), due[i]);
        }
        int[] points = {1, 2, 1, 1, 2, 2, 3, 3, 5, 6, 7, 8, 9, 10, 0, 0};
        Bench.due("points", shop.count(0, 1), points.length / 2);
        for (int i = 0; i < points.length; i++) {
            Bench.due("ordinate " + i, shop.ordinate(0, i / 2, i % 2), points[i]);
        }
        for (int i : new int[] {-1, due.length, Integer.MIN_VALUE, Integer.MAX_VALUE}) {
            Bench.outcomeDue("plan " + i, () -> shop.plan(0, i), Bench.INDEX);
            Bench.outcomeDue("ordinate " + i, () -> shop.ordinate(0, i, 0), Bench.INDEX);
        }
        Bench.outcomeDue("ordinate 8", () -> shop.ordinate(0, 8, 0), Bench.INDEX);
        Bench.outcomeDue("ordinate what 2", () -> shop.ordinate(0, 0, 2), Bench.INDEX);
        Bench.outcomeDue("ordinate what -1", () -> shop.ordinate(0, 0, -1), Bench.INDEX);
        Bench.outcomeDue("plan of none", () -> shop.plan(1, 0), Bench.INDEX);
        Bench.outcomeDue("ordinate of none", () -> shop.ordinate(1, 0, 0), Bench.INDEX);
        Bench.due("count of none", shop.count(1, 0) + shop.count(1, 1), 0);
        for (int slot : NO_SLOTS) {
            Bench.outcomeDue("plan, slot", () -> shop.plan(slot, 0), Bench.INDEX);
            Bench.outcomeDue("ordinate, slot", () -> shop.ordinate(slot, 0, 0), Bench.INDEX);
            Bench.outcomeDue("count, slot", () -> shop.count(slot, 2), Bench.INDEX);
        }
        Bench.outcomeDue("count what 6", () -> shop.count(0, 6), Bench.INDEX);
        Bench.outcomeDue("count what -1", () -> shop.count(0, -1), Bench.INDEX);
        shop.find(0, -9, -9, 9, 9);
        Bench.due("found is counted", shop.count(31, 5), 1);
    }

    private static void areaDue(String text, long due) {
        Bench.due("area " + text, Bench.with(text).area(0), due);
    }

    private static void areas() {
        areaDue("POLYGON ((0 0, 4 0, 4 3, 0 3, 0 0))", 24);
        areaDue("POLYGON ((0 0, 0 3, 4 3, 4 0, 0 0))", 24);
        areaDue("POLYGON ((0 0, 4 0, 4 3))", 12);
        areaDue("POLYGON ((0 0, 9 0, 9 9, 0 9, 0 0), (1 1, 2 1, 2 2, 1 2, 1 1), (4 4, 4 6, 6 6, 6 4, 4 4))", 152);
        areaDue("POLYGON ((1 1, 2 1, 2 2, 1 2, 1 1), (0 0, 9 0, 9 9, 0 9, 0 0))", -160);
        areaDue("MULTIPOLYGON (((0 0, 1 0, 1 1, 0 0)), EMPTY, ((0 0, 1 0, 1 1, 0 0)))", 2);
        areaDue("GEOMETRYCOLLECTION (LINESTRING (0 0, 5 0, 5 5, 0 0), POLYGON ((0 0, 1 0, 1 1, 0 0)), "
                + "GEOMETRYCOLLECTION (MULTIPOLYGON (((7 0, 7 7, 0 0)))))", 50);
        areaDue("LINESTRING (0 0, 5 0, 5 5, 0 0)", 0);
        areaDue("POINT EMPTY", 0);
        areaDue("POLYGON ((0 0, 4 4, 4 0, 0 4, 0 0))", 0);
        areaDue("POLYGON ((-1000000000 -1000000000, 1000000000 -1000000000, 1000000000 1000000000, "
                + "-1000000000 1000000000, -1000000000 -1000000000))", 8000000000000000000L);
        // twice round: 16 * 10^18 wraps
        areaDue("POLYGON ((-1000000000 -1000000000, 1000000000 -1000000000, 1000000000 1000000000, "
                + "-1000000000 1000000000, -1000000000 -1000000000, 1000000000 -1000000000, 1000000000 1000000000, "
                + "-1000000000 1000000000, -1000000000 -1000000000))", 2446744073709551616L);
        ShapeWorkshop shop = Bench.with("POINT (0 0)");
        Bench.outcomeDue("area of none", () -> shop.area(1), Bench.STATE);
        for (int slot : NO_SLOTS) {
            Bench.outcomeDue("area, slot", () -> shop.area(slot), Bench.INDEX);
        }
    }

    private static void bounds() {
        ShapeWorkshop shop = Bench.with("GEOMETRYCOLLECTION (POINT (3 -2), POINT EMPTY, LINESTRING (-7 5, 0 9))",
                "MULTIPOINT EMPTY", "POINT (-1000000000 1000000000)");
        int[] due = {-7, -2, 3, 9};
        for (int what = 0; what < 4; what++) {
            Bench.due("bounds " + what, shop.bounds(0, what), due[what]);
            int w = what;
            Bench.outcomeDue("bounds of no points", () -> shop.bounds(1, w), Bench.ARGUMENT);
            Bench.due("bounds of one", shop.bounds(2, what), what % 2 == 0 ? -1000000000 : 1000000000);
        }
        Bench.outcomeDue("bounds what 4", () -> shop.bounds(0, 4), Bench.ARGUMENT);
        Bench.outcomeDue("bounds what -1", () -> shop.bounds(0, -1), Bench.ARGUMENT);
        Bench.outcomeDue("bounds of none", () -> shop.bounds(3, 9), Bench.STATE);
        for (int slot : NO_SLOTS) {
            Bench.outcomeDue("bounds, slot", () -> shop.bounds(slot, 9), Bench.INDEX);
        }
    }
}
