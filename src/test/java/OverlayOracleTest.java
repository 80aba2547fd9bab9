import java.util.ArrayList;
import java.util.Collections;
import java.util.HashMap;
import java.util.List;
import java.util.Map;
import java.util.TreeMap;
import java.util.TreeSet;

/**
 * Overlays of thrown shapes. The oracle looks for hot pixels, chains, pieces and the boundary with fractions, one by
 * one; the result must have just this boundary, must be right when judged, and be told in its one order.
 */
public final class OverlayOracleTest {
    public static void main(String[] args) {
        int[] rounds = Bench.rounds(args, 600);
        for (int round = rounds[0]; round <= rounds[1]; round++) {
            Bench.Dice dice = new Bench.Dice(round + 1000003L);
            boolean near = dice.below(3) == 0;
            int size = near ? 2 + dice.below(4) : 3 + dice.below(12);
            Shapes.Spread spread = Shapes.Spread.thrown(dice, size, 500000000);
            Told one = dice.below(60) == 0 ? tangle(dice, spread, size)
                    : Shapes.area(dice, spread, size, dice.below(2) == 0);
            Told two = dice.below(15) == 0 ? one : Shapes.area(dice, spread, size, dice.below(2) == 0);
            compare(round, one, two);
        }
        Bench.close("OverlayOracleTest");
    }

    /** Many points in a narrow space. */
    private static Told tangle(Bench.Dice dice, Shapes.Spread spread, int size) {
        Told told = new Told(3);
        told.rows.add(Shapes.row(dice, spread, size, 20 + dice.below(30), true));
        return told;
    }

    private static void compare(int round, Told one, Told two) {
        ShapeWorkshop shop = Bench.with(one.words(), two.words());
        List<Plane.Segment> segments = segments(one, 1);
        segments.addAll(segments(two, 2));
        Map<String, Integer> pieces = new TreeMap<>();
        List<Plane.Segment> lines = pieces(segments, pieces);
        for (int way = 0; way < 5; way++) {
            String told = "overlay " + way + " round " + round + ": " + one.words() + " / " + two.words();
            int polygons = shop.overlay(way, 0, 1, 2);
            Told result = Told.of(shop, 2);
            Bench.due(told + " kind", result.kind, 6);
            Bench.due(told + " polygons", result.parts.size(), polygons);
            Bench.due(told + " judged " + result.words(), shop.judge(2), 0);
            Bench.due(told + " boundary " + result.words(), boundaryOf(result, lines),
                    boundary(way, lines, pieces));
            checkOrder(told + " " + result.words(), result);
        }
    }

    /** All segments, those without length too. */
    static List<Plane.Segment> segments(Told told, int owner) {
        List<Plane.Segment> segments = new ArrayList<>();
        for (int[][] ring : told.allRows()) {
            for (int i = 0; i + 1 < ring.length; i++) {
                segments.add(new Plane.Segment(Plane.Place.of(ring[i][0], ring[i][1]),
                        Plane.Place.of(ring[i + 1][0], ring[i + 1][1]), owner));
            }
        }
        return segments;
    }

    private static Plane.Place pixel(Plane.Place p) {
        return Plane.Place.of(p.x.plus(Frac.HALF).floor(), p.y.plus(Frac.HALF).floor());
    }

    private static List<Plane.Place> chain(Plane.Segment s, TreeSet<Plane.Place> hot) {
        List<Plane.Place> chain = new ArrayList<>();
        List<Frac> shares = new ArrayList<>();
        for (Plane.Place h : hot) {
            Frac share = shareIn(s, h);
            if (share == null) {
                continue;
            }
            int at = 0;
            while (at < chain.size() && shares.get(at).compareTo(share) < 0) {
                at++;
            }
            chain.add(at, h);
            shares.add(at, share);
        }
        return chain;
    }

    /** A share of the way at which the segment is in the pixel, or null: tried at and between all of its lines. */
    private static Frac shareIn(Plane.Segment s, Plane.Place h) {
        TreeSet<Frac> shares = new TreeSet<>();
        shares.add(Frac.ZERO);
        shares.add(Frac.ONE);
        Plane.Place way = s.way();
        for (int side = -1; side <= 1; side += 2) {
            Frac half = Frac.of(side, 2);
            if (way.x.sign() != 0) {
                shares.add(h.x.plus(half).minus(s.a.x).over(way.x));
            }
            if (way.y.sign() != 0) {
                shares.add(h.y.plus(half).minus(s.a.y).over(way.y));
            }
        }
        List<Frac> tried = new ArrayList<>(shares);
        for (int i = 0; i + 1 < shares.size(); i++) {
            tried.add(tried.get(i).plus(tried.get(i + 1)).times(Frac.HALF));
        }
        for (Frac share : tried) {
            if (share.sign() >= 0 && share.compareTo(Frac.ONE) <= 0
                    && pixel(s.a.plus(way, share)).equals(h)) {
                return share;
            }
        }
        return null;
    }

    private static List<Plane.Segment> pieces(List<Plane.Segment> segments, Map<String, Integer> masks) {
        TreeSet<Plane.Place> hot = new TreeSet<>();
        for (Plane.Segment s : segments) {
            hot.add(s.a);
            hot.add(s.b);
            for (Plane.Segment t : segments) {
                List<Plane.Place> common = s.common(t);
                if (common.size() == 1 && !s.isEnd(common.get(0)) && !t.isEnd(common.get(0))) {
                    hot.add(pixel(common.get(0)));
                }
            }
        }
        Map<String, Plane.Segment> lines = new HashMap<>();
        for (Plane.Segment s : segments) {
            List<Plane.Place> chain = chain(s, hot);
            for (int i = 0; i + 1 < chain.size(); i++) {
                Plane.Place a = chain.get(i);
                Plane.Place b = chain.get(i + 1);
                Plane.Segment piece = a.compareTo(b) < 0 ? new Plane.Segment(a, b, 0) : new Plane.Segment(b, a, 0);
                String key = piece.a + ", " + piece.b;
                lines.put(key, piece);
                masks.merge(key, s.owner, (x, y) -> x ^ y);
            }
        }
        List<Plane.Segment> kept = new ArrayList<>();
        for (Map.Entry<String, Plane.Segment> entry : lines.entrySet()) {
            if (masks.get(entry.getKey()) != 0) {
                kept.add(entry.getValue());
            } else {
                masks.remove(entry.getKey());
            }
        }
        return kept;
    }

    private static boolean isInside(int way, List<Plane.Segment> lines, Map<String, Integer> masks, Plane.Place p) {
        int inside = 0;
        for (Plane.Segment s : lines) {
            if (s.isCrossedFrom(p)) {
                inside ^= masks.get(s.a + ", " + s.b);
            }
        }
        boolean first = (inside & 1) != 0;
        boolean second = (inside & 2) != 0;
        switch (way) {
            case 0:
                return first && second;
            case 1:
                return first || second;
            case 2:
                return first && !second;
            case 3:
                return first ^ second;
            default:
                return !first && second;
        }
    }

    /** The pieces of the boundary, so that the result lies to the left. */
    private static TreeSet<String> boundary(int way, List<Plane.Segment> lines, Map<String, Integer> masks) {
        TreeSet<String> boundary = new TreeSet<>();
        for (Plane.Segment s : lines) {
            Plane.Place w = s.way();
            Plane.Place middle = Plane.middle(s.a, s.b);
            Plane.Place left = Plane.beside(middle, new Plane.Place(w.y.times(Frac.of(-1)), w.x), lines);
            Plane.Place right = Plane.beside(middle, new Plane.Place(w.y, w.x.times(Frac.of(-1))), lines);
            boolean leftIn = isInside(way, lines, masks, left);
            boolean rightIn = isInside(way, lines, masks, right);
            if (leftIn != rightIn) {
                boundary.add(leftIn ? s.a + " -> " + s.b : s.b + " -> " + s.a);
            }
        }
        return boundary;
    }

    /** The rings' sides, cut at the ends of all pieces; one that comes twice is told twice. */
    private static TreeSet<String> boundaryOf(Told result, List<Plane.Segment> lines) {
        TreeSet<Plane.Place> ends = new TreeSet<>();
        for (Plane.Segment s : lines) {
            ends.add(s.a);
            ends.add(s.b);
        }
        TreeSet<String> boundary = new TreeSet<>();
        for (Plane.Segment s : segments(result, 0)) {
            List<Plane.Place> on = new ArrayList<>();
            for (Plane.Place p : ends) {
                if (s.holds(p)) {
                    on.add(p);
                }
            }
            if (s.a.compareTo(s.b) > 0) {
                Collections.reverse(on);
            }
            for (int i = 0; i + 1 < on.size(); i++) {
                String piece = on.get(i) + " -> " + on.get(i + 1);
                if (!boundary.add(piece)) {
                    boundary.add(piece + " again");
                }
            }
        }
        return boundary;
    }

    private static void checkOrder(String told, Told result) {
        int[][] before = null;
        for (Told polygon : result.parts) {
            Bench.holds(told + " shells in order", before == null || compare(before, polygon.rows.get(0)) < 0);
            before = polygon.rows.get(0);
            for (int i = 0; i < polygon.rows.size(); i++) {
                int[][] ring = polygon.rows.get(i);
                checkRing(told, ring, i == 0);
                Bench.holds(told + " holes in order", i < 2 || compare(polygon.rows.get(i - 1), ring) < 0);
            }
        }
    }

    private static int compare(int[][] one, int[][] two) {
        for (int i = 0; i < 2; i++) {
            for (int k = 0; k < 2; k++) {
                if (one[i][k] != two[i][k]) {
                    return Integer.compare(one[i][k], two[i][k]);
                }
            }
        }
        return 0;
    }

    private static void checkRing(String told, int[][] ring, boolean shell) {
        int n = ring.length - 1;
        Frac around = Frac.ZERO;
        for (int i = 0; i < n; i++) {
            Plane.Place p = Plane.Place.of(ring[i][0], ring[i][1]);
            Plane.Place next = Plane.Place.of(ring[i + 1][0], ring[i + 1][1]);
            Plane.Place before = Plane.Place.of(ring[(i + n - 1) % n][0], ring[(i + n - 1) % n][1]);
            Bench.holds(told + " begins with the least", i == 0
                    || Plane.Place.of(ring[0][0], ring[0][1]).compareTo(p) < 0);
            Bench.holds(told + " has no corner straight on",
                    Plane.cross(p.minus(before), next.minus(p)).sign() != 0);
            around = around.plus(Plane.cross(p, next));
        }
        Bench.due(told + " direction", around.sign(), shell ? 1 : -1);
    }
}
