/**
 * Promises 16 to 27, the edges: the farthest points, the largest results, nothing at all, and that slot to stays
 * when a call is refused.
 */
public final class LimitsTest {
    private static final String KEPT = "POINT (7 7)";
    private static final int HALF = 500000000;
    private static final int FAR = 1000000000;

    public static void main(String[] args) {
        farthestOverlays();
        largestResults();
        mostCornersOfOneRing();
        mostTriangles();
        overlaysOfNothing();
        overlaysOntoThemselves();
        overlaysAgain();
        crossingsInOnePlace();
        farthestRelations();
        relationsOfNothing();
        lengthlessParts();
        hullsOfMany();
        trianglesOfMany();
        trianglesAgain();
        simplerByMuch();
        areasThatWrap();
        boxesAtTheEdge();
        Bench.close("LimitsTest");
    }

    // ---- overlay

    private static String triangle(int x, int y) {
        return "((" + x + " " + y + ",0 0,1 1," + x + " " + y + "))";
    }

    private static void farthestOverlays() {
        for (int axis = 0; axis < 2; axis++) {
            for (int sign = -1; sign <= 1; sign += 2) {
                int last = sign * HALF;
                int beyond = sign * (HALF + 1);
                String good = triangle(axis == 0 ? last : 0, axis == 0 ? 0 : last);
                String bad = triangle(axis == 0 ? beyond : 0, axis == 0 ? 0 : beyond);
                ShapeWorkshop shop = Bench.with("POLYGON " + good, "POLYGON " + bad, "MULTIPOLYGON (EMPTY," + good
                        + ")", "MULTIPOLYGON (EMPTY," + bad + ")", KEPT);
                Bench.outcomeDue("as far as may be", () -> shop.overlay(1, 0, 2, 5), "1");
                Bench.outcomeDue("as far as may be", () -> shop.overlay(1, 2, 0, 5), "1");
                for (int wrong = 1; wrong < 4; wrong += 2) {
                    int w = wrong;
                    Bench.outcomeDue("too far, first", () -> shop.overlay(1, w, 0, 4), Bench.ARGUMENT);
                    Bench.outcomeDue("too far, second", () -> shop.overlay(1, 0, w, 4), Bench.ARGUMENT);
                }
                Bench.due("stays", Bench.words(shop, 4), KEPT);
            }
        }
    }

    /** A ring of so many points, the last being the first: a saw, from the left at a height. */
    private static String saw(int points, int x) {
        StringBuilder text = new StringBuilder("((").append(x).append(" -1");
        for (int i = 1; i < points - 2; i++) {
            text.append(',').append(x + i).append(i % 2 == 0 ? " 0" : " 1");
        }
        return text.append(',').append(x + points - 2).append(" -3,").append(x).append(" -1))").toString();
    }

    private static void largestResults() {
        ShapeWorkshop shop = Bench.with("POLYGON " + saw(1024, 0), "POLYGON " + saw(1024, 2000),
                "POLYGON " + saw(1025, 4000), "POLYGON " + saw(2047, 0), "POLYGON EMPTY", KEPT);
        Bench.put(shop, 6, "POLYGON " + saw(2048, 0));
        Bench.outcomeDue("2047 points", () -> shop.overlay(1, 3, 4, 9), "1");
        Bench.due("2047 points", shop.count(9, 1), 2047);
        Bench.outcomeDue("2048 points of one ring", () -> shop.overlay(3, 4, 6, 9), "1");
        Bench.due("2048 points", shop.count(9, 1), 2048);
        Bench.outcomeDue("2048 points of two rings", () -> shop.overlay(1, 0, 1, 9), "2");
        Bench.due("2048 points", shop.count(9, 1), 2048);
        // 2047 segments, so that the result alone is too much
        for (int what = 1; what < 5; what += 2) {
            int w = what;
            Bench.outcomeDue("2049 points", () -> shop.overlay(w, 0, 2, 5), Bench.TOO_MUCH);
        }
        Bench.due("stays", Bench.words(shop, 5), KEPT);
        Bench.outcomeDue("of the first alone", () -> shop.overlay(2, 0, 2, 9), "1");
        Bench.outcomeDue("of the second alone", () -> shop.overlay(4, 0, 2, 9), "1");
        Bench.due("1025 points", shop.count(9, 1), 1025);
        Bench.outcomeDue("none of both", () -> shop.overlay(0, 0, 2, 9), "0");
        Bench.due("it keeps its room", Bench.words(shop, 9), "MULTIPOLYGON EMPTY");
    }

    /** A saw of so many teeth that stand out of a box: each one makes three corners of the one ring. */
    private static void mostCornersOfOneRing() {
        String[] boxes = {"((-10 -10,9000 -10,9000 100,-10 100,-10 -10))",
            "((-10 -10,9000 -10,9001 0,9000 100,-10 100,-10 -10))",
            "((-10 -10,9000 -10,9001 0,9000 100,-10 100,-11 0,-10 -10))"};
        for (int more = 0; more < 3; more++) {
            for (int teeth = 680; teeth < 1022; teeth += teeth < 683 ? 1 : 169) {
                StringBuilder saw = new StringBuilder("((0 0");
                for (int i = 0; i < teeth; i++) {
                    saw.append(",").append(4 * i + 2).append(" 200,").append(4 * i + 4).append(" 0");
                }
                saw.append(",").append(4 * teeth).append(" -5,0 -5,0 0))");
                ShapeWorkshop shop = Bench.with("POLYGON " + boxes[more], "POLYGON " + saw, KEPT);
                int points = 3 * teeth + 4 + more + 1;
                Bench.outcomeDue(points + " points", () -> shop.overlay(1, 0, 1, 2),
                        points > 2048 ? Bench.TOO_MUCH : "1");
                Bench.due("their number", shop.count(2, 1), points > 2048 ? 1 : points);
            }
        }
    }

    private static String triangles(int from, int to) {
        StringBuilder text = new StringBuilder("MULTIPOLYGON (");
        for (int i = from; i < to; i++) {
            text.append(i > from ? "," : "").append("((").append(3 * i).append(" 0,").append(3 * i + 2).append(" 0,")
                    .append(3 * i).append(" 2,").append(3 * i).append(" 0))");
        }
        return text.append(")").toString();
    }

    private static void mostTriangles() {
        ShapeWorkshop shop = Bench.with(triangles(0, 256), triangles(256, 512), triangles(256, 513),
                triangles(0, 512), "MULTIPOLYGON EMPTY", KEPT);
        Bench.outcomeDue("512 triangles", () -> shop.overlay(1, 0, 1, 9), "512");
        Bench.due("as they are", shop.same(9, 3), true);
        Bench.outcomeDue("512 triangles", () -> shop.overlay(2, 3, 4, 9), "512");
        Bench.due("as they are", shop.same(9, 3), true);
        Bench.outcomeDue("513 triangles", () -> shop.overlay(1, 0, 2, 5), Bench.TOO_MUCH);
        Bench.outcomeDue("513 triangles", () -> shop.overlay(3, 2, 0, 5), Bench.TOO_MUCH);
        Bench.due("stays", Bench.words(shop, 5), KEPT);
        // triangles cut out of a large one: 4 + 4 * 511 points, and one hole more
        Bench.put(shop, 6, "POLYGON ((-9 -9,9999 -9,-9 9999,-9 -9))");
        Bench.put(shop, 7, triangles(0, 511));
        Bench.outcomeDue("511 holes", () -> shop.overlay(2, 6, 7, 9), "1");
        Bench.due("their points", shop.count(9, 1), 2048);
        Bench.due("rings", shop.plan(9, 3), 512);
        Bench.outcomeDue("512 holes", () -> shop.overlay(2, 6, 3, 5), Bench.TOO_MUCH);
        Bench.due("stays", Bench.words(shop, 5), KEPT);
    }

    private static void overlaysOfNothing() {
        String[] nothing = {"POLYGON EMPTY", "MULTIPOLYGON EMPTY", "MULTIPOLYGON (EMPTY, EMPTY)", "POLYGON ((3 3))",
            "POLYGON ((3 3, 3 3))", "POLYGON ((3 3, 5 5, 3 3), (1 1))", "POLYGON ((0 0, 9 0, 4 0, 0 0))"};
        for (String one : nothing) {
            for (String two : nothing) {
                for (int what = 0; what < 5; what++) {
                    ShapeWorkshop shop = Bench.with(one, two, KEPT);
                    Bench.due("polygons of nothing", shop.overlay(what, 0, 1, 2), 0);
                    Bench.due("nothing", Bench.words(shop, 2), "MULTIPOLYGON EMPTY");
                }
            }
        }
    }

    private static void overlaysOntoThemselves() {
        String square = "POLYGON ((0 0, 4 0, 4 4, 0 4, 0 0))";
        String[] due = {"MULTIPOLYGON (((0 0, 4 0, 4 4, 0 4, 0 0)))", "MULTIPOLYGON (((0 0, 4 0, 4 4, 0 4, 0 0)))",
            "MULTIPOLYGON EMPTY", "MULTIPOLYGON EMPTY", "MULTIPOLYGON EMPTY"};
        for (int what = 0; what < 5; what++) {
            ShapeWorkshop shop = Bench.with(square, square, "POLYGON ((2 0, 6 0, 6 4, 2 4, 2 0))");
            Bench.due("one slot alone", shop.overlay(what, 0, 0, 0), what < 2 ? 1 : 0);
            Bench.due("one slot alone", Bench.words(shop, 0), due[what]);
            shop.overlay(what, 1, 2, 9);
            shop.overlay(what, 1, 2, 2);
            Bench.due("onto the other one", shop.same(2, 9), true);
            Bench.put(shop, 2, "POLYGON ((2 0, 6 0, 6 4, 2 4, 2 0))");
            shop.overlay(what, 1, 2, 1);
            Bench.due("onto the first one", shop.same(1, 9), true);
        }
    }

    /** What was laid over before leaves nothing behind: segments without length, pixels, pieces. */
    private static void overlaysAgain() {
        StringBuilder row = new StringBuilder("POLYGON ((0 0,4 0,4 4,0 4,0 0)");
        for (int i = 0; i < 500; i++) {
            row.append(",(").append(i).append(" 9,").append(i).append(" 9)");
        }
        ShapeWorkshop shop = Bench.with(row + ")", "POLYGON ((1 1,2 1,2 2,1 1))");
        for (int i = 0; i < 20; i++) {
            int what = i % 5;
            Bench.outcomeDue("504 segments again", () -> shop.overlay(what, 0, 0, 9), what < 2 ? "1" : "0");
            Bench.outcomeDue("507 segments again", () -> shop.overlay(what, 0, 1, 9), what == 4 ? "0" : "1");
        }
    }

    /** Lines there and back through one place: far more crossings than pixels, in far fewer of these. */
    private static void crossingsInOnePlace() {
        StringBuilder lines = new StringBuilder("MULTIPOLYGON (");
        for (int i = 0; i < 120; i++) {
            lines.append(i > 0 ? "," : "").append("((-1000 ").append(-i).append(",1000 ").append(i).append(",-1000 ")
                    .append(-i).append("))");
        }
        ShapeWorkshop shop = Bench.with(lines + ")", "POLYGON ((-3 -1000,3 -1000,0 -900,-3 -1000))", KEPT);
        Bench.outcomeDue("28560 crossings in one place", () -> shop.overlay(1, 0, 1, 9), "1");
        Bench.due("the other one", Bench.words(shop, 9), "MULTIPOLYGON (((-3 -1000, 3 -1000, 0 -900, -3 -1000)))");
        // 70 boxes each way cross in 19600 places
        StringBuilder standing = new StringBuilder("MULTIPOLYGON (");
        StringBuilder lying = new StringBuilder("MULTIPOLYGON (");
        for (int i = 0; i < 70; i++) {
            int a = 4 * i;
            int b = a + 2;
            standing.append(i > 0 ? "," : "").append("((" + a + " -9," + b + " -9," + b + " 300," + a + " 300," + a
                    + " -9))");
            lying.append(i > 0 ? "," : "").append("((-9 " + a + ",300 " + a + ",300 " + b + ",-9 " + b + ",-9 " + a
                    + "))");
        }
        Bench.put(shop, 3, standing + ")");
        Bench.put(shop, 4, lying + ")");
        for (int what = 0; what < 5; what++) {
            int w = what;
            Bench.outcomeDue("19600 crossings", () -> shop.overlay(w, 3, 4, 2), Bench.TOO_MUCH);
        }
        Bench.due("stays", Bench.words(shop, 2), KEPT);
        Bench.outcomeDue("as before", () -> shop.overlay(1, 0, 1, 9), "1");
    }

    // ---- relate, is, locate

    private static void farthestRelations() {
        String[] heads = {"POINT (", "LINESTRING (0 0,", "POLYGON ((0 0,3 3,", "MULTIPOINT (EMPTY,",
            "MULTILINESTRING ((1 1,2 2),(0 0,", "MULTIPOLYGON (((1 1)),((0 0,3 3,"};
        String[] ends = {")", ")", "))", ")", "))", ")))"};
        for (int kind = 0; kind < heads.length; kind++) {
            for (int way = 0; way < 4; way++) {
                int sign = way % 2 == 0 ? 1 : -1;
                String last = way < 2 ? sign * HALF + " 0" : "0 " + sign * HALF;
                String beyond = way < 2 ? sign * (HALF + 1) + " 0" : "0 " + sign * (HALF + 1);
                ShapeWorkshop shop = Bench.with(heads[kind] + last + ends[kind], heads[kind] + beyond + ends[kind],
                        "POINT (0 0)");
                Bench.outcomeDue("1 is equal", () -> shop.is(0, 0, 0) ? 1 : 0, "1");
                Bench.holds("as far as may be", shop.relate(0, 2) > 0 && shop.relate(2, 0) > 0);
                int x = way < 2 ? sign * HALF : 0;
                int y = way < 2 ? 0 : sign * HALF;
                Bench.holds("locate", shop.locate(0, x, y) < 2);
                int farX = way < 2 ? x + sign : 0;
                int farY = way < 2 ? 0 : y + sign;
                Bench.outcomeDue("locate too far", () -> shop.locate(0, farX, farY), Bench.ARGUMENT);
                Bench.outcomeDue("relate too far", () -> shop.relate(1, 2), Bench.ARGUMENT);
                Bench.outcomeDue("relate too far", () -> shop.relate(2, 1), Bench.ARGUMENT);
                Bench.outcomeDue("is too far", () -> shop.is(0, 1, 2) ? 1 : 0, Bench.ARGUMENT);
                Bench.outcomeDue("is too far", () -> shop.is(0, 2, 1) ? 1 : 0, Bench.ARGUMENT);
                Bench.outcomeDue("locate of too far", () -> shop.locate(1, 0, 0), Bench.ARGUMENT);
            }
        }
        ShapeWorkshop shop = Bench.with("GEOMETRYCOLLECTION EMPTY", "GEOMETRYCOLLECTION (POINT (1 1))", "POINT (1 1)");
        for (int slot = 0; slot < 2; slot++) {
            int s = slot;
            Bench.outcomeDue("a collection", () -> shop.relate(s, 2), Bench.ARGUMENT);
            Bench.outcomeDue("a collection", () -> shop.relate(2, s), Bench.ARGUMENT);
            Bench.outcomeDue("a collection", () -> shop.is(1, 2, s) ? 1 : 0, Bench.ARGUMENT);
            Bench.outcomeDue("a collection", () -> shop.locate(s, 1, 1), Bench.ARGUMENT);
        }
    }

    /** Nothing and nothing: just 2 2 is there; all other answers of is() follow. */
    private static void relationsOfNothing() {
        String[] nothing = {"POINT EMPTY", "LINESTRING EMPTY", "POLYGON EMPTY", "MULTIPOINT EMPTY",
            "MULTILINESTRING EMPTY", "MULTIPOLYGON EMPTY", "MULTIPOINT (EMPTY)", "MULTILINESTRING (EMPTY)",
            "MULTIPOLYGON (EMPTY)", "LINESTRING (3 3)", "LINESTRING (3 3, 3 3)", "POLYGON ((3 3))",
            "POLYGON ((3 3, 3 3))", "MULTILINESTRING ((3 3), (3 3))"};
        for (String one : nothing) {
            for (String two : nothing) {
                ShapeWorkshop shop = Bench.with(one, two, "POINT (3 3)");
                Bench.due("nothing and nothing", shop.relate(0, 1), 3);
                for (int what = 0; what < 9; what++) {
                    Bench.due("nothing is " + what, shop.is(what, 0, 1), what < 2);
                }
                Bench.due("a point and nothing", shop.relate(2, 1), 4 * 4 * 4 * 4 * 4 * 4 + 3);
                Bench.due("nothing and a point", shop.relate(0, 2), 16 + 3);
                for (int what = 0; what < 9; what++) {
                    Bench.due("a point is " + what, shop.is(what, 2, 0), what == 1);
                    Bench.due("nothing is " + what, shop.is(what, 0, 2), what == 1);
                }
                Bench.due("no place in it", shop.locate(0, 3, 3), 2);
            }
        }
    }

    /** Parts without length are parts, and like points make no segments. */
    private static void lengthlessParts() {
        StringBuilder row = new StringBuilder("LINESTRING (0 0");
        for (int i = 1; i <= 256; i++) {
            row.append(",").append(i).append(" 0,").append(i).append(" 0");
        }
        ShapeWorkshop shop = Bench.with(row + ")", row + ",257 0)", "POINT (5 0)", "POLYGON EMPTY");
        // nine signs of the matrix, the first being four to the eighth
        Bench.due("256 segments", shop.relate(0, 2) >> 16, 1);
        Bench.outcomeDue("257 segments", () -> shop.relate(1, 2), Bench.TOO_MUCH);
        Bench.outcomeDue("257 segments", () -> shop.relate(3, 1), Bench.TOO_MUCH);
        Bench.outcomeDue("257 segments", () -> shop.is(1, 3, 1) ? 1 : 0, Bench.TOO_MUCH);
        Bench.outcomeDue("256 and 256 segments", () -> shop.relate(0, 0), Bench.TOO_MUCH);
        // a ring that is open has one more, from the last point to the first
        StringBuilder open = new StringBuilder("POLYGON ((0 0");
        for (int i = 1; i < 255; i++) {
            open.append(",").append(i).append(i % 2 == 0 ? " 0" : " 1");
        }
        ShapeWorkshop rings = Bench.with(open + ",128 -9))", open + ",128 -9,127 -9))", "POINT (128 -8)",
                open + ",128 -9,0 0))", open + ",128 -9,127 -9,0 0))");
        Bench.due("256 segments, open", rings.relate(0, 2) >> 16, 1);
        Bench.due("256 segments, closed", rings.relate(3, 2) >> 16, 1);
        Bench.outcomeDue("257 segments, open", () -> rings.relate(1, 2), Bench.TOO_MUCH);
        Bench.outcomeDue("257 segments, closed", () -> rings.relate(4, 2), Bench.TOO_MUCH);
        // pairs that meet more than once are one pair: all of a star's, and of one line told often
        StringBuilder star = new StringBuilder("MULTILINESTRING ((0 0,9 9)");
        for (int i = 1; i < 45; i++) {
            star.append(",(0 0,9 ").append(i - 20).append(")");
        }
        ShapeWorkshop stars = Bench.with(star + ",(99 99,98 98,97 99),(50 9,51 9,52 9))",
                star + ",(0 0,1 9))", star + ")", "POINT (0 0)",
                "MULTILINESTRING (" + "(0 0,9 9),".repeat(45) + "(0 0,9 9))");
        // 45 lines have 990 pairs, and two rows of two lines one each
        Bench.outcomeDue("992 pairs", () -> stars.relate(0, 3) > 0 ? 1 : 0, "1");
        Bench.outcomeDue("1035 pairs", () -> stars.relate(1, 3), Bench.TOO_MUCH);
        Bench.outcomeDue("990 pairs", () -> stars.relate(2, 3) > 0 ? 1 : 0, "1");
        Bench.outcomeDue("1035 pairs of one line", () -> stars.relate(4, 3), Bench.TOO_MUCH);
        Bench.outcomeDue("1035 pairs of one line", () -> stars.is(0, 3, 4) ? 1 : 0, Bench.TOO_MUCH);
        Bench.due("locate does not ask for it", stars.locate(4, 5, 5), 0);
    }

    // ---- hull, triangles, simplify

    /** So many points, each a corner of the hull, and the first one so many times more. */
    private static String parabola(int n, int more) {
        StringBuilder text = new StringBuilder("LINESTRING (");
        for (int i = 0; i < n; i++) {
            text.append(i > 0 ? "," : "").append(i).append(' ').append(i * i);
        }
        return text + ",0 0".repeat(more) + ")";
    }

    private static void hullsOfMany() {
        ShapeWorkshop shop = Bench.with(parabola(1023, 0), parabola(1024, 0), parabola(1025, 0),
                parabola(1024, 1024), KEPT);
        Bench.due("1023 corners", shop.hull(0, 9), 1023);
        Bench.due("1024 corners", shop.hull(1, 9), 1024);
        Bench.due("and the first one once more", shop.count(9, 1), 1025);
        Bench.due("as a polygon of one ring", shop.plan(9, 0) + " " + shop.plan(9, 1) + " " + shop.plan(9, 2),
                "3 1 1025");
        Bench.due("one told often", shop.hull(3, 9), 1024);
        Bench.outcomeDue("1025 places", () -> shop.hull(2, 4), Bench.TOO_MUCH);
        Bench.outcomeDue("1025 places", () -> shop.triangles(2, 4), Bench.TOO_MUCH);
        Bench.due("stays", Bench.words(shop, 4), KEPT);
        Bench.due("so does what was asked", shop.count(2, 1), 1025);
    }

    private static void trianglesOfMany() {
        ShapeWorkshop shop = Bench.with(parabola(514, 0), parabola(515, 0), KEPT);
        Bench.due("512 triangles, all points on the outside", shop.triangles(0, 9), 512);
        Bench.due("their points", shop.count(9, 1), 2048);
        Bench.outcomeDue("513 triangles", () -> shop.triangles(1, 2), Bench.TOO_MUCH);
        Bench.due("stays", Bench.words(shop, 2), KEPT);
        // n points with h of them on the outside make 2 * n - 2 - h
        inCornersDue("-9000 -9000,9000 -9000,0 900000", 254, "509");
        inCornersDue("-9000 -9000,9000 -9000,0 900000", 255, "511");
        inCornersDue("-9000 -9000,9000 -9000,0 900000", 256, Bench.TOO_MUCH);
        inCornersDue("-9000 -9000,9000 -9000,9000 900000,-9000 900000", 254, "510");
        inCornersDue("-9000 -9000,9000 -9000,9000 900000,-9000 900000", 255, "512");
        inCornersDue("-9000 -9000,9000 -9000,9000 900000,-9000 900000", 256, Bench.TOO_MUCH);
        for (String one : new String[] {"POINT EMPTY", "POINT (1 1)", "LINESTRING (1 1, 1 1, 2 5)",
            "MULTIPOINT (1 1, 1 1, 1 1)", "GEOMETRYCOLLECTION EMPTY"}) {
            ShapeWorkshop few = Bench.with(one, KEPT);
            Bench.due("no triangles", few.triangles(0, 1), 0);
            Bench.due("no triangles", Bench.words(few, 1), "MULTIPOLYGON EMPTY");
        }
    }

    private static void inCornersDue(String corners, int inner, String want) {
        StringBuilder text = new StringBuilder("MULTIPOINT (").append(corners);
        for (int i = 0; i < inner; i++) {
            text.append(",").append(i).append(' ').append(i * i);
        }
        ShapeWorkshop shop = Bench.with(text + ")", KEPT);
        Bench.outcomeDue("triangles of " + inner + " in " + corners, () -> shop.triangles(0, 1), want);
        if (want.equals(Bench.TOO_MUCH)) {
            Bench.due("stays", Bench.words(shop, 1), KEPT);
        }
    }

    /** What was refused before, or told, leaves nothing behind. */
    private static void trianglesAgain() {
        ShapeWorkshop shop = Bench.with(parabola(514, 0), parabola(515, 0), "MULTIPOINT (0 0,4 0,4 4,0 4,1 2)",
                "LINESTRING (0 0,1 1,2 2)", parabola(300, 0));
        StringBuilder grid = new StringBuilder("LINESTRING (0 0");
        for (int i = 1; i < 500; i++) {
            grid.append(",").append(i % 25).append(' ').append(i / 25);
        }
        Bench.put(shop, 5, grid + ")");
        // five places behind all others, with triangles of their own
        String behind = parabola(245, 0).replace(")", ",90000 0,90004 0,90004 4,90000 4,90002 2)");
        Bench.put(shop, 6, behind);
        int count = shop.triangles(6, 10);
        Bench.due("all that is within the hull", areaOfHull(shop, 6), shop.area(10));
        for (int i = 0; i < 3; i++) {
            Bench.due("triangles again", shop.triangles(6, 9), count);
            Bench.due("triangles again", shop.same(9, 10), true);
        }
        for (int i = 0; i < 4; i++) {
            Bench.outcomeDue("912 triangles again", () -> shop.triangles(5, 9), Bench.TOO_MUCH);
            Bench.due("298 triangles behind it", shop.triangles(4, 9), 298);
            Bench.outcomeDue("912 triangles again", () -> shop.triangles(5, 9), Bench.TOO_MUCH);
            Bench.outcomeDue("513 triangles again", () -> shop.triangles(1, 9), Bench.TOO_MUCH);
            Bench.due("four triangles again", shop.triangles(2, 9), 4);
            Bench.due("four triangles again", Bench.words(shop, 9), "MULTIPOLYGON (((0 0, 4 0, 1 2, 0 0)), "
                    + "((0 0, 1 2, 0 4, 0 0)), ((4 0, 4 4, 1 2, 4 0)), ((4 4, 0 4, 1 2, 4 4)))");
            Bench.due("none again", shop.triangles(3, 9), 0);
            Bench.due("298 triangles again", shop.triangles(4, 9), 298);
            Bench.due("512 triangles again", shop.triangles(0, 9), 512);
            Bench.due("none again", shop.triangles(3, 9), 0);
        }
    }

    private static long areaOfHull(ShapeWorkshop shop, int slot) {
        shop.hull(slot, 31);
        return shop.area(31);
    }

    private static void simplerByMuch() {
        StringBuilder text = new StringBuilder("LINESTRING (0 0");
        for (int i = 1; i < 2048; i++) {
            text.append(",").append(i).append(' ').append(i % 2);
        }
        ShapeWorkshop shop = Bench.with(text + ")", KEPT, "MULTIPOLYGON (EMPTY, ((1 1), (2 2, 3 3)))");
        Bench.due("nothing left out", shop.simplify(0, 5, 0), 0);
        Bench.due("all of 2048 points", shop.same(0, 5), true);
        Bench.due("all but two", shop.simplify(0, 5, 1), 2046);
        Bench.due("all but two", Bench.words(shop, 5), "LINESTRING (0 0, 2047 1)");
        Bench.due("by the most there is", shop.simplify(0, 5, FAR), 2046);
        Bench.due("rings of one and two points", shop.simplify(2, 5, FAR), 0);
        Bench.due("stay", shop.same(2, 5), true);
        // 2 to the power 20 wide, with 2 to the power 23 and one more high: squares that differ by a bit above 64
        ShapeWorkshop high = Bench.with("LINESTRING (0 0,5 8388609,1048576 0)",
                "LINESTRING (0 0,5 -8388609,1048576 0)");
        for (int slot = 0; slot < 2; slot++) {
            Bench.due("one unit less", high.simplify(slot, 5, 8388608), 0);
            Bench.due("as far", high.simplify(slot, 5, 8388609), 1);
            Bench.due("one unit more", high.simplify(slot, 5, 8388610), 1);
        }
        for (int distance : new int[] {-1, FAR + 1, Integer.MIN_VALUE, Integer.MAX_VALUE}) {
            Bench.outcomeDue("distance " + distance, () -> shop.simplify(0, 1, distance), Bench.ARGUMENT);
        }
        Bench.due("stays", Bench.words(shop, 1), KEPT);
    }

    // ---- area and boxes

    private static void areasThatWrap() {
        // 8 * 10^18, and 2 * 589934592 * 1036870912 more: 2 to the power 63, one way round and the other way
        String corner = "-1000000000 -1000000000";
        String square = "1000000000 -1000000000,1000000000 1000000000,-1000000000 1000000000,";
        String box = "-410065408 -1000000000,-410065408 36870912,-1000000000 36870912,";
        String least = "((" + corner + "," + square + corner + "," + box + corner + "))";
        String back = "((" + corner + ",-1000000000 1000000000,1000000000 1000000000,1000000000 -1000000000," + corner
                + ",-1000000000 36870912,-410065408 36870912,-410065408 -1000000000," + corner + "))";
        Bench.due("the least one", Bench.with("POLYGON " + least).area(0), Long.MIN_VALUE);
        Bench.due("the other way round", Bench.with("POLYGON " + back).area(0), Long.MIN_VALUE);
        String small = "((0 0,1 0,0 1,0 0))";
        Bench.due("and one more", Bench.with("MULTIPOLYGON (" + least + "," + small + ")").area(0),
                Long.MIN_VALUE + 1);
        Bench.due("twice", Bench.with("MULTIPOLYGON (" + least + "," + back + ")").area(0), 0);
        Bench.due("less the least one", Bench.with("POLYGON ((0 0,1 0,0 1,0 0)," + least.substring(1)).area(0),
                1 - Long.MIN_VALUE);
        // the ring that is one unit less than that wraps not, and one that wraps below 0 has no sign
        Bench.due("a bit less", Bench.with("POLYGON " + least.replace("-410065408 36870912", "-410065409 36870912"))
                .area(0), Long.MAX_VALUE - 1036870911L);
        Bench.due("twice round", Bench.with("POLYGON ((" + corner + "," + square + corner + "," + square + corner
                + "))").area(0), 2446744073709551616L);
        Bench.due("open", Bench.with("POLYGON ((" + corner + "," + square.substring(0, square.length() - 1) + "))")
                .area(0), 8000000000000000000L);
        for (String none : new String[] {"POINT EMPTY", "POLYGON EMPTY", "MULTIPOLYGON EMPTY", "POLYGON ((3 3))",
            "MULTIPOINT (1 1, 2 2)", "GEOMETRYCOLLECTION EMPTY", "POLYGON ((0 0, 5 5))"}) {
            Bench.due("area of " + none, Bench.with(none).area(0), 0);
        }
    }

    private static void boxesAtTheEdge() {
        ShapeWorkshop shop = Bench.with("POINT (1000000000 -1000000000)", "LINESTRING (-1000000000 -1000000000, "
                + "1000000000 1000000000)", "POINT EMPTY", "MULTIPOINT (EMPTY, -1000000000 5)");
        Bench.due("the corner", shop.find(0, FAR, -FAR, FAR, -FAR), 2);
        Bench.due("in the corner", shop.find(1, FAR, -FAR, FAR, -FAR), 1);
        Bench.due("it is slot 0", shop.found(0), 0);
        Bench.due("all lie in it", shop.find(1, -FAR, -FAR, FAR, FAR), 3);
        Bench.due("one has it in it", shop.find(2, -FAR, -FAR, FAR, FAR), 1);
        Bench.due("it is slot 1", shop.found(0), 1);
        int[][] windows = {{-FAR - 1, 0, 0, 0}, {0, -FAR - 1, 0, 0}, {0, 0, FAR + 1, 0}, {0, 0, 0, FAR + 1},
            {FAR + 1, 0, FAR + 1, 0}, {0, FAR + 1, 0, FAR + 1}, {-FAR - 1, 0, -FAR - 1, 0}, {0, -FAR - 1, 0, -FAR - 1},
            {1, 0, 0, 0}, {0, 1, 0, 0}, {0, 0, -1, 0}, {0, 0, 0, -1}, {FAR, 0, -FAR, 0}};
        for (int[] w : windows) {
            for (int what = 0; what < 3; what++) {
                int way = what;
                Bench.outcomeDue("window", () -> shop.find(way, w[0], w[1], w[2], w[3]), Bench.ARGUMENT);
            }
        }
        for (int what : new int[] {-1, 3, Integer.MIN_VALUE, Integer.MAX_VALUE}) {
            Bench.outcomeDue("find " + what, () -> shop.find(what, 0, 0, 0, 0), Bench.ARGUMENT);
        }
        Bench.due("found stays", shop.count(0, 5) + " " + shop.found(0), "1 1");
        Bench.due("32 of three", shop.nearest(-FAR, FAR, 32), 3);
        Bench.due("the nearest", shop.found(0) + " " + shop.found(1) + " " + shop.found(2), "1 3 0");
        Bench.due("one of three", shop.nearest(-FAR, FAR, 1), 1);
        Bench.outcomeDue("just one", () -> shop.found(1), Bench.INDEX);
        int[][] places = {{FAR + 1, 0, 1}, {-FAR - 1, 0, 1}, {0, FAR + 1, 1}, {0, -FAR - 1, 1}, {0, 0, 0}, {0, 0, 33},
            {0, 0, -1}, {Integer.MIN_VALUE, 0, 1}, {0, Integer.MAX_VALUE, 1}, {0, 0, Integer.MAX_VALUE}};
        for (int[] p : places) {
            Bench.outcomeDue("nearest", () -> shop.nearest(p[0], p[1], p[2]), Bench.ARGUMENT);
        }
        Bench.due("found stays", shop.count(0, 5) + " " + shop.found(0), "1 1");
        // 2 * 10^9 both ways: 8 * 10^18, and one unit nearer
        ShapeWorkshop far = Bench.with("POINT (1000000000 1000000000)", "POINT (999999999 1000000000)");
        Bench.due("far", far.nearest(-FAR, -FAR, 2) + " " + far.found(0) + " " + far.found(1), "2 1 0");
        ShapeWorkshop none = new ShapeWorkshop(0);
        Bench.due("nothing is near", none.nearest(0, 0, 32), 0);
        Bench.due("nothing is found", none.find(0, -FAR, -FAR, FAR, FAR), 0);
        Bench.outcomeDue("nothing", () -> none.found(0), Bench.INDEX);
    }
}
