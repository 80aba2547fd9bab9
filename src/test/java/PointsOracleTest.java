import java.util.ArrayList;
import java.util.List;
import java.util.TreeSet;

/** Hulls, triangles and simpler shapes of thrown points, compared with the document's words taken one by one. */
public final class PointsOracleTest {
    public static void main(String[] args) {
        int[] rounds = Bench.rounds(args, 2500);
        for (int round = rounds[0]; round <= rounds[1]; round++) {
            Bench.Dice dice = new Bench.Dice(round + 4242L);
            Told told = thrown(dice);
            ShapeWorkshop shop = Bench.with(told.words());
            compareHull(round, shop, told);
            compareTriangles(round, shop, told);
            compareSimpler(round, shop, told, dice);
        }
        Bench.close("PointsOracleTest");
    }

    /** Points of a small grid, often turned and stretched so that circles stay circles; or points far and wide. */
    private static Told thrown(Bench.Dice dice) {
        int size = 1 + dice.below(6);
        int length = dice.below(dice.below(4) == 0 ? 14 : 9);
        long a = 1;
        long b = 0;
        if (dice.below(2) == 0) {
            int most = 1000000000 / size / 2;
            a = dice.from(-most, most);
            b = dice.from(-most, most);
        }
        boolean wide = dice.below(5) == 0;
        int[][] row = new int[length][];
        for (int i = 0; i < length; i++) {
            long x = dice.below(size + 1);
            long y = dice.below(size + 1);
            row[i] = wide ? new int[] {dice.from(-1000000000, 1000000000), dice.from(-1000000000, 1000000000)}
                    : new int[] {(int) (a * x - b * y), (int) (b * x + a * y)};
            if (i > 0 && dice.below(8) == 0) {
                row[i] = row[dice.below(i)].clone();
            }
        }
        Told line = new Told(2);
        line.rows.add(row);
        switch (dice.below(4)) {
            case 0:
                Told ring = new Told(3);
                if (length > 0) {
                    ring.rows.add(row);
                }
                return ring;
            case 1:
                Told both = new Told(7);
                both.parts.add(line);
                both.parts.add(new Told(1).row(1, 1));
                return both;
            default:
                return line;
        }
    }

    private static List<Plane.Place> places(Told told) {
        List<Plane.Place> places = new ArrayList<>();
        for (int[] p : told.allPoints()) {
            Plane.Place place = Plane.Place.of(p[0], p[1]);
            if (!places.contains(place)) {
                places.add(place);
            }
        }
        return places;
    }

    private static int turn(Plane.Place a, Plane.Place b, Plane.Place c) {
        return Plane.cross(b.minus(a), c.minus(a)).sign();
    }

    private static boolean isCorner(Plane.Place p, List<Plane.Place> places) {
        for (Plane.Place a : places) {
            for (Plane.Place b : places) {
                if (a.equals(b) || a.equals(p) || b.equals(p)) {
                    continue;
                }
                if (new Plane.Segment(a, b, 0).holds(p)) {
                    return false;
                }
                for (Plane.Place c : places) {
                    if (!c.equals(p) && turn(a, b, c) > 0 && turn(a, b, p) >= 0 && turn(b, c, p) >= 0
                            && turn(c, a, p) >= 0) {
                        return false;
                    }
                }
            }
        }
        return true;
    }

    private static void compareHull(int round, ShapeWorkshop shop, Told told) {
        List<Plane.Place> places = places(told);
        TreeSet<Plane.Place> corners = new TreeSet<>();
        for (Plane.Place p : places) {
            if (isCorner(p, places)) {
                corners.add(p);
            }
        }
        List<Plane.Place> order = new ArrayList<>();
        if (!corners.isEmpty()) {
            Plane.Place least = corners.pollFirst();
            order.addAll(corners);
            order.sort((p, q) -> turn(least, q, p));
            order.add(0, least);
        }
        StringBuilder due = new StringBuilder();
        due.append(order.isEmpty() ? "GEOMETRYCOLLECTION EMPTY" : order.size() == 1 ? "POINT ("
                : order.size() == 2 ? "LINESTRING (" : "POLYGON ((");
        for (int i = 0; i < order.size() + (order.size() > 2 ? 1 : 0); i++) {
            due.append(i > 0 ? ", " : "").append(order.get(i % order.size()));
        }
        due.append(order.isEmpty() ? "" : order.size() > 2 ? "))" : ")");
        Bench.due("hull corners " + round + " " + told.words(), shop.hull(0, 1), order.size());
        Bench.due("hull " + round + " " + told.words(), Bench.words(shop, 1), due.toString());
    }

    /** Above 0 when d lies inside of the circle through a, b, c, left round. */
    private static int inCircle(Plane.Place a, Plane.Place b, Plane.Place c, Plane.Place d) {
        Frac sum = Frac.ZERO;
        Plane.Place[] p = {a.minus(d), b.minus(d), c.minus(d)};
        for (int i = 0; i < 3; i++) {
            sum = sum.plus(Plane.dot(p[i], p[i]).times(Plane.cross(p[(i + 1) % 3], p[(i + 2) % 3])));
        }
        return sum.sign();
    }

    private static void compareTriangles(int round, ShapeWorkshop shop, Told told) {
        List<Plane.Place> places = places(told);
        TreeSet<String> due = new TreeSet<>();
        for (Plane.Place a : places) {
            for (Plane.Place b : places) {
                for (Plane.Place c : places) {
                    if (turn(a, b, c) > 0 && a.compareTo(b) < 0 && a.compareTo(c) < 0) {
                        addTriangles(due, places, a, b, c);
                    }
                }
            }
        }
        StringBuilder words = new StringBuilder(due.isEmpty() ? "MULTIPOLYGON EMPTY" : "MULTIPOLYGON (");
        for (String triangle : due) {
            String[] numbers = triangle.split(" ");
            words.append(words.length() > 14 ? ", " : "").append("((");
            for (int i = 0; i < 4; i++) {
                words.append(i > 0 ? ", " : "").append(places.get(Integer.parseInt(numbers[i % 3]) - 100));
            }
            words.append("))");
        }
        words.append(due.isEmpty() ? "" : ")");
        Bench.due("triangles " + round + " " + told.words(), shop.triangles(0, 1), due.size());
        Bench.due("triangles " + round + " " + told.words(), Bench.words(shop, 1), words.toString());
    }

    /** The triangles of the circle through three points, if it is empty; a circle may come up again. */
    private static void addTriangles(TreeSet<String> due, List<Plane.Place> places, Plane.Place a, Plane.Place b,
            Plane.Place c) {
        List<Plane.Place> on = new ArrayList<>();
        for (Plane.Place d : places) {
            int inside = inCircle(a, b, c, d);
            if (inside > 0) {
                return;
            }
            if (inside == 0) {
                on.add(d);
            }
        }
        Plane.Place least = new TreeSet<>(on).first();
        on.remove(least);
        on.sort((p, q) -> turn(least, q, p));
        for (int i = 0; i + 1 < on.size(); i++) {
            int[] n = {places.indexOf(least) + 100, places.indexOf(on.get(i)) + 100,
                places.indexOf(on.get(i + 1)) + 100};
            int first = n[0] < n[1] && n[0] < n[2] ? 0 : n[1] < n[2] ? 1 : 2;
            due.add(n[first] + " " + n[(first + 1) % 3] + " " + n[(first + 2) % 3]);
        }
    }

    private static void compareSimpler(int round, ShapeWorkshop shop, Told told, Bench.Dice dice) {
        int[] distances = {0, 1, dice.below(5), dice.from(0, 1000000000), 1000000000};
        for (int distance : distances) {
            Told due = simpler(told, distance);
            Bench.due("simplify " + distance + " " + round + " " + told.words(), shop.simplify(0, 1, distance),
                    told.pointCount() - due.pointCount());
            Bench.due("simplify " + distance + " " + round + " " + told.words(), Bench.words(shop, 1), due.words());
        }
    }

    private static Told simpler(Told told, int distance) {
        Told made = new Told(told.kind);
        for (int[][] row : told.rows) {
            boolean[] stays = new boolean[row.length];
            if (row.length > 0) {
                stays[0] = true;
                stays[row.length - 1] = true;
                mark(row, stays, 0, row.length - 1, distance);
            }
            List<int[]> left = new ArrayList<>();
            for (int i = 0; i < row.length; i++) {
                if (stays[i]) {
                    left.add(row[i]);
                }
            }
            made.rows.add(left.toArray(new int[0][]));
        }
        for (Told part : told.parts) {
            made.parts.add(simpler(part, distance));
        }
        return made;
    }

    private static void mark(int[][] row, boolean[] stays, int a, int b, int distance) {
        Frac most = Frac.of(distance).times(Frac.of(distance));
        int best = -1;
        for (int i = a + 1; i < b; i++) {
            Frac square = square(place(row[i]), place(row[a]), place(row[b]));
            if (square.compareTo(most) > 0) {
                most = square;
                best = i;
            }
        }
        if (best > 0) {
            stays[best] = true;
            mark(row, stays, a, best, distance);
            mark(row, stays, best, b, distance);
        }
    }

    private static Plane.Place place(int[] p) {
        return Plane.Place.of(p[0], p[1]);
    }

    /** The square of the distance from a segment: the nearest place lies at a share of its way. */
    private static Frac square(Plane.Place p, Plane.Place a, Plane.Place b) {
        Plane.Place way = b.minus(a);
        Frac share = Frac.ZERO;
        if (!a.equals(b)) {
            share = Plane.dot(p.minus(a), way).over(Plane.dot(way, way));
            share = share.sign() < 0 ? Frac.ZERO : share.compareTo(Frac.ONE) > 0 ? Frac.ONE : share;
        }
        Plane.Place left = p.minus(a.plus(way, share));
        return Plane.dot(left, left);
    }
}
