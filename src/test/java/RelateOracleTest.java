import java.util.ArrayList;
import java.util.List;
import java.util.TreeSet;

/** Matrices of thrown shapes, compared with those that come of looking at every place, edge and face one by one. */
public final class RelateOracleTest {
    public static void main(String[] args) {
        int[] rounds = Bench.rounds(args, 800);
        for (int round = rounds[0]; round <= rounds[1]; round++) {
            Bench.Dice dice = new Bench.Dice(round);
            int size = 2 + dice.below(5);
            Shapes.Spread spread = Shapes.Spread.thrown(dice, size, 500000000);
            Told one = Shapes.any(dice, spread, size);
            Told two = dice.below(12) == 0 ? one : Shapes.any(dice, spread, size);
            compare(round, one, two);
            comparePlaces(round, one, spread, size);
        }
        Bench.close("RelateOracleTest");
    }

    private static void compare(int round, Told one, Told two) {
        ShapeWorkshop shop = Bench.with(one.words(), two.words());
        if (isTooMuch(one, two)) {
            Bench.outcomeDue("too much " + round, () -> shop.relate(0, 1), Bench.TOO_MUCH);
            Bench.outcomeDue("too much " + round, () -> shop.is(round % 9, 0, 1) ? 1 : 0, Bench.TOO_MUCH);
            return;
        }
        int[] matrix = matrix(one, two);
        int value = 0;
        for (int dimension : matrix) {
            value = 4 * value + dimension + 1;
        }
        String told = round + ": " + one.words() + " / " + two.words();
        Bench.due("relate " + told, Integer.toString(shop.relate(0, 1), 4), Integer.toString(value, 4));
        int[] first = matrix(one, one);
        int[] second = matrix(two, two);
        for (int what = 0; what < 9; what++) {
            Bench.due("is " + what + " " + told, shop.is(what, 0, 1), lieSo(what, matrix, first[0], second[0]));
        }
    }

    private static boolean isTooMuch(Told one, Told two) {
        List<Plane.Segment> all = segments(one, 0);
        all.addAll(segments(two, 1));
        int pairs = 0;
        for (int i = 0; i < all.size(); i++) {
            for (int j = i + 1; j < all.size(); j++) {
                pairs += all.get(i).common(all.get(j)).isEmpty() ? 0 : 1;
            }
        }
        return all.size() > 256 || pairs > 1024;
    }

    private static boolean lieSo(int what, int[] m, int d1, int d2) {
        boolean[] has = new boolean[9];
        for (int i = 0; i < 9; i++) {
            has[i] = m[i] >= 0;
        }
        boolean common = has[0] || has[1] || has[3] || has[4];
        switch (what) {
            case 0:
                return d1 == -1 && d2 == -1 || has[0] && !has[2] && !has[5] && !has[6] && !has[7];
            case 1:
                return !common;
            case 2:
                return !has[0] && (has[1] || has[3] || has[4]);
            case 3:
                return d1 < d2 ? has[0] && has[2] : d1 > d2 ? has[0] && has[6] : d1 == 1 && m[0] == 0;
            case 4:
                return has[0] && !has[2] && !has[5];
            case 5:
                return has[0] && !has[6] && !has[7];
            case 6:
                return d1 == d2 && d1 != -1 && m[0] == d1 && has[2] && has[6];
            case 7:
                return common && !has[2] && !has[5];
            default:
                return common && !has[6] && !has[7];
        }
    }

    static List<Plane.Segment> segments(Told told, int owner) {
        List<Plane.Segment> segments = new ArrayList<>();
        if (told.kind == 1 || told.kind == 4) {
            return segments;
        }
        boolean area = told.kind == 3 || told.kind == 6;
        for (int[][] row : told.allRows()) {
            for (int i = 0; i + (area ? 0 : 1) < row.length; i++) {
                int[] a = row[i];
                int[] b = row[(i + 1) % row.length];
                if (a[0] != b[0] || a[1] != b[1]) {
                    segments.add(new Plane.Segment(Plane.Place.of(a[0], a[1]), Plane.Place.of(b[0], b[1]), owner));
                }
            }
        }
        return segments;
    }

    /** Where a place is of a shape, word for word. */
    static int where(Told told, List<Plane.Segment> segments, Plane.Place p) {
        if (told.kind == 1 || told.kind == 4) {
            for (int[] q : told.allPoints()) {
                if (Plane.Place.of(q[0], q[1]).equals(p)) {
                    return 0;
                }
            }
            return 2;
        }
        boolean on = false;
        int crossed = 0;
        for (Plane.Segment s : segments) {
            on |= s.holds(p);
            crossed += s.isCrossedFrom(p) ? 1 : 0;
        }
        if (told.kind == 3 || told.kind == 6) {
            return on ? 1 : crossed % 2 == 1 ? 0 : 2;
        }
        int ends = 0;
        for (int[][] row : told.allRows()) {
            if (row.length > 0) {
                ends += Plane.Place.of(row[0][0], row[0][1]).equals(p) ? 1 : 0;
                ends += Plane.Place.of(row[row.length - 1][0], row[row.length - 1][1]).equals(p) ? 1 : 0;
            }
        }
        return ends % 2 == 1 ? 1 : on ? 0 : 2;
    }

    /** Where what is no single place is: single points do not matter. */
    private static int aside(Told told, List<Plane.Segment> segments, Plane.Place p) {
        return told.kind == 1 || told.kind == 4 ? 2 : where(told, segments, p);
    }

    private static int[] matrix(Told one, Told two) {
        List<Plane.Segment> first = segments(one, 0);
        List<Plane.Segment> second = segments(two, 1);
        List<Plane.Segment> all = new ArrayList<>(first);
        all.addAll(second);
        TreeSet<Plane.Place> places = new TreeSet<>();
        for (Plane.Segment s : all) {
            for (Plane.Segment t : all) {
                places.addAll(s.common(t));
            }
        }
        for (Told told : new Told[] {one, two}) {
            for (int[] p : told.allPoints()) {
                places.add(Plane.Place.of(p[0], p[1]));
            }
        }
        int[] matrix = {-1, -1, -1, -1, -1, -1, -1, -1, 2};
        for (Plane.Place p : places) {
            raise(matrix, where(one, first, p), where(two, second, p), 0);
        }
        for (Plane.Segment s : all) {
            Plane.Place before = null;
            for (Plane.Place p : places) {
                if (!s.holds(p)) {
                    continue;
                }
                if (before != null) {
                    Plane.Place middle = Plane.middle(before, p);
                    raise(matrix, aside(one, first, middle), aside(two, second, middle), 1);
                    Plane.Place way = s.way();
                    for (int side = -1; side <= 1; side += 2) {
                        Plane.Place normal = new Plane.Place(way.y.times(Frac.of(-side)), way.x.times(Frac.of(side)));
                        Plane.Place beside = Plane.beside(middle, normal, all);
                        raise(matrix, aside(one, first, beside), aside(two, second, beside), 2);
                    }
                }
                before = p;
            }
        }
        return matrix;
    }

    private static void raise(int[] matrix, int i, int j, int dimension) {
        matrix[3 * i + j] = Math.max(matrix[3 * i + j], dimension);
    }

    private static void comparePlaces(int round, Told told, Shapes.Spread spread, int size) {
        ShapeWorkshop shop = Bench.with(told.words());
        List<Plane.Segment> segments = segments(told, 0);
        for (int x = 0; x <= size; x++) {
            for (int y = 0; y <= size; y++) {
                int[] p = spread.at(x, y);
                Bench.due("locate " + round + " " + told.words() + " " + p[0] + " " + p[1],
                        shop.locate(0, p[0], p[1]), where(told, segments, Plane.Place.of(p[0], p[1])));
            }
        }
    }
}
