import java.util.ArrayList;
import java.util.Arrays;
import java.util.HashMap;
import java.util.List;
import java.util.Map;
import java.util.TreeSet;

/** Judgements of thrown shapes, compared with the document's words taken one by one. */
public final class JudgeOracleTest {
    private static final int[] FAULTS = new int[12];

    public static void main(String[] args) {
        int[] rounds = Bench.rounds(args, 6000);
        for (int round = rounds[0]; round <= rounds[1]; round++) {
            Bench.Dice dice = new Bench.Dice(round + 77L);
            int size = 2 + dice.below(9);
            Shapes.Spread spread = Shapes.Spread.thrown(dice, size, 1000000000);
            Told told = thrown(dice, spread, size, 0);
            ShapeWorkshop shop = Bench.with(told.words());
            int[] due = judge(told);
            String name = "judge " + round + ": " + told.words();
            int got = shop.judge(0);
            Bench.due(name, got, due[7]);
            FAULTS[due[7]]++;
            int[] places = new int[7];
            for (int i = 0; i < 7; i++) {
                places[i] = shop.place(i);
            }
            Bench.due("place of " + name, Arrays.toString(places), Arrays.toString(Arrays.copyOf(due, 7)));
        }
        for (int fault = 0; fault < 12; fault++) {
            Bench.holds("fault " + fault + " comes", rounds[1] < 6000 || FAULTS[fault] > 0);
        }
        System.out.println("  faults " + Arrays.toString(FAULTS));
        Bench.close("JudgeOracleTest");
    }

    private static Told thrown(Bench.Dice dice, Shapes.Spread spread, int size, int depth) {
        int way = dice.below(depth < 2 ? 12 : 9);
        int round = dice.below(8);
        if (round < 3) {
            return round == 0 ? nested(dice, spread, size) : inscribed(dice, spread, size);
        }
        if (way < 4) {
            return holed(dice, spread, size, dice.below(5));
        }
        if (way < 7) {
            Told told = new Told(6);
            int parts = dice.below(4);
            for (int i = 0; i < parts; i++) {
                told.parts.add(dice.below(8) == 0 ? new Told(3) : holed(dice, spread, size, dice.below(3)));
            }
            return told;
        }
        if (way == 7) {
            return Shapes.area(dice, spread, size, dice.below(2) == 0);
        }
        if (way == 8) {
            return Shapes.any(dice, spread, size);
        }
        Told told = new Told(7);
        int parts = dice.below(4);
        for (int i = 0; i < parts; i++) {
            told.parts.add(thrown(dice, spread, size, depth + 1));
        }
        return told;
    }

    /** A large shell and holes, some of which share corners, or are told with a point twice, or left open. */
    private static Told holed(Bench.Dice dice, Shapes.Spread spread, int size, int holes) {
        Told told = new Told(3);
        int[][] box = {spread.at(0, 0), spread.at(size, 0), spread.at(size, size), spread.at(0, size),
            spread.at(0, 0)};
        told.rows.add(dice.below(3) > 0 ? box : Shapes.simpleRing(dice, spread, size));
        for (int i = 0; i < holes; i++) {
            told.rows.add(dice.below(25) == 0 ? Shapes.row(dice, spread, size, 1 + dice.below(6), dice.below(4) > 0)
                    : Shapes.simpleRing(dice, spread, size));
        }
        if (dice.below(6) == 0) {
            int i = dice.below(told.rows.size());
            told.rows.set(i, withTwice(dice, told.rows.get(i)));
        }
        return told;
    }

    /** A star round a place, and rings whose corners are all of the star's, as its holes, or as other parts. */
    private static Told inscribed(Bench.Dice dice, Shapes.Spread spread, int size) {
        List<int[]> around = new ArrayList<>();
        int n = 5 + dice.below(6);
        for (int i = 0; i < n; i++) {
            around.add(new int[] {dice.below(size + 1), dice.below(size + 1)});
        }
        double middle = size / 2.0 + 0.1;
        around.sort((p, q) -> Double.compare(Math.atan2(p[1] - middle, p[0] - middle),
                Math.atan2(q[1] - middle, q[0] - middle)));
        Told star = new Told(3);
        star.rows.add(closed(around, spread));
        Told parts = new Told(6).part(star);
        boolean holes = dice.below(2) == 0;
        int rings = 1 + dice.below(2);
        for (int i = 0; i < rings; i++) {
            List<int[]> some = new ArrayList<>();
            int first = dice.below(n);
            for (int k = 0; k < n; k++) {
                if (dice.below(2) == 0 || some.size() + n - k <= 3) {
                    some.add(around.get((first + k) % n));
                }
            }
            if (dice.below(2) == 0) {
                java.util.Collections.reverse(some);
            }
            int[][] ring = closed(some, spread);
            if (holes) {
                star.rows.add(ring);
            } else {
                Told part = new Told(3);
                part.rows.add(ring);
                parts.parts.add(dice.below(parts.parts.size() + 1), part);
            }
        }
        return holes ? star : parts;
    }

    /** Boxes and rhombs in one another, that touch where a corner of one is in the middle of another one's side. */
    private static Told nested(Bench.Dice dice, Shapes.Spread spread, int size) {
        Told polygon = new Told(3);
        Told parts = new Told(6);
        int half = size / 2;
        int count = 2 + dice.below(3);
        for (int i = 0; i < count; i++) {
            int r = i == 0 && dice.below(3) > 0 ? half : 1 + dice.below(half);
            int x = half + (r < half && dice.below(3) == 0 ? dice.below(3) - 1 : 0);
            List<int[]> corners = new ArrayList<>();
            boolean box = dice.below(2) == 0;
            int first = dice.below(4);
            for (int k = 0; k < 4; k++) {
                int turn = (first + k) % 4;
                int dx = box ? (turn == 0 || turn == 3 ? -r : r) : turn == 0 ? -r : turn == 2 ? r : 0;
                int dy = box ? (turn < 2 ? -r : r) : turn == 1 ? -r : turn == 3 ? r : 0;
                corners.add(new int[] {x + dx, half + dy});
            }
            if (dice.below(2) == 0) {
                java.util.Collections.reverse(corners);
            }
            polygon.rows.add(closed(corners, spread));
            Told part = new Told(3);
            part.rows.add(closed(corners, spread));
            parts.parts.add(part);
        }
        return dice.below(3) > 0 ? polygon : parts;
    }

    private static int[][] closed(List<int[]> corners, Shapes.Spread spread) {
        int[][] row = new int[corners.size() + 1][];
        for (int i = 0; i < row.length; i++) {
            int[] p = corners.get(i % corners.size());
            row[i] = spread.at(p[0], p[1]);
        }
        return row;
    }

    private static int[][] withTwice(Bench.Dice dice, int[][] row) {
        int[][] longer = new int[row.length + 1][];
        int at = dice.below(row.length);
        for (int i = 0; i < longer.length; i++) {
            longer[i] = row[i <= at ? i : i - 1].clone();
        }
        return longer;
    }

    // ---- the oracle: the seven places and the fault

    private static int[] judge(Told told) {
        int[] number = {0};
        int[] fault = judge(told, number);
        if (fault == null) {
            fault = new int[8];
            Arrays.fill(fault, 0, 7, -1);
        }
        return fault;
    }

    private static int[] judge(Told told, int[] number) {
        int[] fault = null;
        int own = number[0]++;
        if (told.kind == 2) {
            TreeSet<Plane.Place> places = places(told.allRows().isEmpty() ? new int[0][] : told.rows.get(0));
            fault = places.size() == 1 ? fault(2, -1, -1, -1, -1, -1, -1) : null;
        } else if (told.kind == 3) {
            fault = polygon(told, 0);
        } else if (told.kind == 6) {
            fault = multi(told);
        }
        if (fault != null) {
            fault[0] = own;
            return fault;
        }
        for (Told part : told.parts) {
            fault = judge(part, number);
            if (fault != null) {
                return fault;
            }
        }
        return null;
    }

    private static int[] fault(int code, int part, int ring, int segment, int part2, int ring2, int segment2) {
        return new int[] {-1, part, ring, segment, part2, ring2, segment2, code};
    }

    private static TreeSet<Plane.Place> places(int[][] row) {
        TreeSet<Plane.Place> places = new TreeSet<>();
        for (int[] p : row) {
            places.add(Plane.Place.of(p[0], p[1]));
        }
        return places;
    }

    private static List<Plane.Segment> ring(int[][] row, int part, int ring) {
        List<Plane.Segment> segments = new ArrayList<>();
        for (int i = 0; i + 1 < row.length; i++) {
            Plane.Place a = Plane.Place.of(row[i][0], row[i][1]);
            Plane.Place b = Plane.Place.of(row[i + 1][0], row[i + 1][1]);
            if (!a.equals(b)) {
                segments.add(new Plane.Segment(a, b, 0, part, ring, i));
            }
        }
        return segments;
    }

    private static List<List<Plane.Segment>> rings(Told polygon, int part) {
        List<List<Plane.Segment>> rings = new ArrayList<>();
        for (int i = 0; i < polygon.rows.size(); i++) {
            rings.add(ring(polygon.rows.get(i), part, i));
        }
        return rings;
    }

    private static int[] pair(int code, Plane.Segment s, Plane.Segment t) {
        return fault(code, s.part, s.ring, s.number, t.part, t.ring, t.number);
    }

    private static int[] polygon(Told told, int part) {
        for (int i = 0; i < told.rows.size(); i++) {
            int[][] row = told.rows.get(i);
            if (row.length == 0 || !Arrays.equals(row[0], row[row.length - 1])) {
                return fault(1, part, i, -1, -1, -1, -1);
            }
            if (places(row).size() < 3) {
                return fault(2, part, i, -1, -1, -1, -1);
            }
        }
        List<List<Plane.Segment>> rings = rings(told, part);
        List<Plane.Segment> all = new ArrayList<>();
        for (List<Plane.Segment> ring : rings) {
            all.addAll(ring);
        }
        for (int i = 0; i < all.size(); i++) {
            for (int j = i + 1; j < all.size(); j++) {
                Plane.Segment s = all.get(i);
                Plane.Segment t = all.get(j);
                int code = pairFault(s, t, rings.get(s.ring), rings.get(t.ring));
                if (code != 0) {
                    return pair(code, s, t);
                }
            }
        }
        for (int i = 1; i < rings.size(); i++) {
            if (!liesIn(rings.get(i), rings.get(0))) {
                return fault(6, part, i, -1, -1, -1, -1);
            }
        }
        for (int i = 1; i < rings.size(); i++) {
            for (int j = i + 1; j < rings.size(); j++) {
                if (liesIn(rings.get(i), rings.get(j)) || liesIn(rings.get(j), rings.get(i))) {
                    return fault(7, part, i, -1, part, j, -1);
                }
            }
        }
        return isSplit(rings) ? fault(8, part, -1, -1, -1, -1, -1) : null;
    }

    private static int pairFault(Plane.Segment s, Plane.Segment t, List<Plane.Segment> ringS,
            List<Plane.Segment> ringT) {
        List<Plane.Place> common = s.common(t);
        if (common.isEmpty()) {
            return 0;
        }
        if (common.size() > 1) {
            return 3;
        }
        Plane.Place p = common.get(0);
        if (!s.isEnd(p) && !t.isEnd(p)) {
            return 4;
        }
        boolean one = ringS == ringT;
        if (one) {
            boolean neighbours = next(s, ringS) == t && s.b.equals(p) && t.a.equals(p)
                    || next(t, ringS) == s && t.b.equals(p) && s.a.equals(p);
            return neighbours ? 0 : 5;
        }
        return !s.a.equals(p) && !t.a.equals(p) && cross(p, s, t, ringS, ringT) ? 4 : 0;
    }

    private static Plane.Segment next(Plane.Segment s, List<Plane.Segment> ring) {
        return ring.get((ring.indexOf(s) + 1) % ring.size());
    }

    private static boolean cross(Plane.Place p, Plane.Segment s, Plane.Segment t, List<Plane.Segment> ringS,
            List<Plane.Segment> ringT) {
        Plane.Place on = (s.b.equals(p) ? next(s, ringS).b : s.b).minus(p);
        Plane.Place back = s.a.minus(p);
        Plane.Place otherOn = (t.b.equals(p) ? next(t, ringT).b : t.b).minus(p);
        Plane.Place otherBack = t.a.minus(p);
        return isBetween(on, back, otherOn) != isBetween(on, back, otherBack);
    }

    /** Strictly between two ways, left round from the first one. */
    private static boolean isBetween(Plane.Place on, Plane.Place back, Plane.Place way) {
        return quarter(on, way) > 0 && compareAngles(on, way, back) < 0;
    }

    private static int quarter(Plane.Place on, Plane.Place way) {
        int cross = Plane.cross(on, way).sign();
        return cross > 0 ? 1 : cross < 0 ? 3 : Plane.dot(on, way).sign() > 0 ? 0 : 2;
    }

    private static int compareAngles(Plane.Place on, Plane.Place one, Plane.Place two) {
        int first = quarter(on, one);
        int second = quarter(on, two);
        return first != second ? Integer.compare(first, second) : -Plane.cross(one, two).sign();
    }

    private static boolean isOn(Plane.Place p, List<Plane.Segment> ring) {
        for (Plane.Segment s : ring) {
            if (s.holds(p)) {
                return true;
            }
        }
        return false;
    }

    private static boolean isWithin(Plane.Place p, List<Plane.Segment> ring) {
        int crossed = 0;
        for (Plane.Segment s : ring) {
            crossed += s.isCrossedFrom(p) ? 1 : 0;
        }
        return crossed % 2 == 1 && !isOn(p, ring);
    }

    private static boolean liesIn(List<Plane.Segment> ring, List<Plane.Segment> other) {
        for (Plane.Segment s : ring) {
            if (!isOn(s.a, other)) {
                return isWithin(s.a, other);
            }
        }
        Plane.Segment first = ring.get(0);
        return isWithin(Plane.beside(first.a, first.way(), other), other);
    }

    /** Rings and the places where they touch, joined: more joints than a tree has. */
    private static boolean isSplit(List<List<Plane.Segment>> rings) {
        TreeSet<Plane.Place> touched = new TreeSet<>();
        for (List<Plane.Segment> one : rings) {
            for (List<Plane.Segment> two : rings) {
                if (one == two) {
                    continue;
                }
                for (Plane.Segment s : one) {
                    for (Plane.Segment t : two) {
                        touched.addAll(s.common(t));
                    }
                }
            }
        }
        Map<Object, List<Object>> joints = new HashMap<>();
        int count = 0;
        for (int i = 0; i < rings.size(); i++) {
            joints.put(i, new ArrayList<>());
        }
        for (Plane.Place p : touched) {
            joints.put(p, new ArrayList<>());
            for (int i = 0; i < rings.size(); i++) {
                if (isOn(p, rings.get(i))) {
                    joints.get(p).add(i);
                    joints.get(i).add(p);
                    count++;
                }
            }
        }
        int pieces = 0;
        List<Object> seen = new ArrayList<>();
        for (Object start : joints.keySet()) {
            if (seen.contains(start)) {
                continue;
            }
            pieces++;
            List<Object> open = new ArrayList<>();
            open.add(start);
            seen.add(start);
            while (!open.isEmpty()) {
                for (Object next : joints.get(open.remove(0))) {
                    if (!seen.contains(next)) {
                        seen.add(next);
                        open.add(next);
                    }
                }
            }
        }
        return count > joints.size() - pieces;
    }

    private static int[] multi(Told told) {
        List<List<List<Plane.Segment>>> parts = new ArrayList<>();
        for (int i = 0; i < told.parts.size(); i++) {
            int[] fault = polygon(told.parts.get(i), i);
            if (fault != null) {
                return fault;
            }
            parts.add(rings(told.parts.get(i), i));
        }
        List<Plane.Segment> all = new ArrayList<>();
        for (List<List<Plane.Segment>> part : parts) {
            for (List<Plane.Segment> ring : part) {
                all.addAll(ring);
            }
        }
        for (int i = 0; i < all.size(); i++) {
            for (int j = i + 1; j < all.size(); j++) {
                Plane.Segment s = all.get(i);
                Plane.Segment t = all.get(j);
                if (s.part != t.part) {
                    int code = pairFault(s, t, parts.get(s.part).get(s.ring), parts.get(t.part).get(t.ring));
                    if (code != 0) {
                        return pair(code + 6, s, t);
                    }
                }
            }
        }
        for (int i = 0; i < parts.size(); i++) {
            for (int j = i + 1; j < parts.size(); j++) {
                if (isInner(parts.get(i), parts.get(j)) || isInner(parts.get(j), parts.get(i))) {
                    return fault(11, i, -1, -1, j, -1, -1);
                }
            }
        }
        return null;
    }

    private static boolean isInner(List<List<Plane.Segment>> one, List<List<Plane.Segment>> two) {
        if (one.isEmpty() || two.isEmpty() || !liesIn(one.get(0), two.get(0))) {
            return false;
        }
        for (int i = 1; i < two.size(); i++) {
            if (liesIn(one.get(0), two.get(i))) {
                return false;
            }
        }
        return true;
    }
}
