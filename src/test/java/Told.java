import java.util.ArrayList;
import java.util.List;

/** A shape as the tests know it: a kind, and rows of points or parts; told in words, or taken from a slot. */
final class Told {
    static final String[] WORDS = {"", "POINT", "LINESTRING", "POLYGON", "MULTIPOINT", "MULTILINESTRING",
        "MULTIPOLYGON", "GEOMETRYCOLLECTION"};

    final int kind;
    /** Of a point or a line one row (perhaps of no points), of a polygon its rings. */
    final List<int[][]> rows = new ArrayList<>();
    final List<Told> parts = new ArrayList<>();

    Told(int kind) {
        this.kind = kind;
    }

    Told row(int... xy) {
        int[][] row = new int[xy.length / 2][];
        for (int i = 0; i < row.length; i++) {
            row[i] = new int[] {xy[2 * i], xy[2 * i + 1]};
        }
        rows.add(row);
        return this;
    }

    Told part(Told part) {
        parts.add(part);
        return this;
    }

    boolean isEmpty() {
        return kind < 3 ? rows.isEmpty() || rows.get(0).length == 0 : kind == 3 ? rows.isEmpty() : parts.isEmpty();
    }

    /** All rows of points of this and its parts. */
    List<int[][]> allRows() {
        List<int[][]> all = new ArrayList<>(rows);
        for (Told part : parts) {
            all.addAll(part.allRows());
        }
        return all;
    }

    List<int[]> allPoints() {
        List<int[]> all = new ArrayList<>();
        for (int[][] row : allRows()) {
            for (int[] p : row) {
                all.add(p);
            }
        }
        return all;
    }

    int pointCount() {
        return allPoints().size();
    }

    /** The kinds and counts in their order. */
    List<Integer> plan() {
        List<Integer> plan = new ArrayList<>();
        plan.add(kind);
        if (kind < 3) {
            plan.add(isEmpty() ? 0 : rows.get(0).length);
        } else if (kind == 3) {
            plan.add(rows.size());
            for (int[][] ring : rows) {
                plan.add(ring.length);
            }
        } else {
            plan.add(parts.size());
            for (Told part : parts) {
                plan.addAll(part.plan());
            }
        }
        return plan;
    }

    String words() {
        return WORDS[kind] + " " + inner();
    }

    private String inner() {
        if (isEmpty()) {
            return "EMPTY";
        }
        StringBuilder text = new StringBuilder();
        if (kind < 3) {
            return rowText(rows.get(0));
        }
        text.append('(');
        if (kind == 3) {
            for (int[][] ring : rows) {
                text.append(text.length() > 1 ? ", " : "").append(rowText(ring));
            }
        }
        for (Told part : parts) {
            text.append(text.length() > 1 ? ", " : "").append(kind == 7 ? part.words() : part.inner());
        }
        return text.append(')').toString();
    }

    private static String rowText(int[][] row) {
        StringBuilder text = new StringBuilder("(");
        for (int[] p : row) {
            text.append(text.length() > 1 ? ", " : "").append(p[0]).append(' ').append(p[1]);
        }
        return text.append(')').toString();
    }

    static Told of(ShapeWorkshop shop, int slot) {
        int[] at = {0, 0};
        return of(shop, slot, at);
    }

    private static Told of(ShapeWorkshop shop, int slot, int[] at) {
        Told told = new Told(shop.plan(slot, at[0]));
        int count = shop.plan(slot, at[0] + 1);
        at[0] += 2;
        if (told.kind < 3) {
            told.rows.add(rowOf(shop, slot, at, count));
        } else if (told.kind == 3) {
            for (int i = 0; i < count; i++) {
                told.rows.add(rowOf(shop, slot, at, shop.plan(slot, at[0]++)));
            }
        } else {
            for (int i = 0; i < count; i++) {
                told.parts.add(of(shop, slot, at));
            }
        }
        return told;
    }

    private static int[][] rowOf(ShapeWorkshop shop, int slot, int[] at, int count) {
        int[][] row = new int[count][];
        for (int i = 0; i < count; i++) {
            row[i] = new int[] {shop.ordinate(slot, at[1], 0), shop.ordinate(slot, at[1], 1)};
            at[1]++;
        }
        return row;
    }
}
