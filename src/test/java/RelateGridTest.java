import java.util.ArrayList;
import java.util.List;

/**
 * Promises 17 to 19 for shapes whose sides lie along a grid, over one another, in any direction: each place, side and
 * field of the grid is looked at. Then rows as long as they may be, and what was related before.
 */
public final class RelateGridTest {
    private static final int SIZE = 4;

    public static void main(String[] args) {
        int[] rounds = Bench.rounds(args, 12000);
        for (int round = rounds[0]; round <= rounds[1]; round++) {
            compare(round, new Bench.Dice(round + 4711L));
        }
        onOneLine();
        manyEnds();
        manyCuts();
        Bench.close("RelateGridTest");
    }

    private static void compare(int round, Bench.Dice dice) {
        Told one = thrown(dice);
        Told two = dice.below(10) == 0 ? one : thrown(dice);
        // the grid lies round 0, so that numbers below it come too, or far away
        int x = dice.below(4) == 0 ? 499999990 : -dice.below(SIZE + 1);
        int y = dice.below(4) == 0 ? -500000000 : -dice.below(SIZE + 1);
        ShapeWorkshop shop = Bench.with(moved(one, x, y).words(), moved(two, x, y).words());
        Bench.due("relate " + round + " " + one.words() + " / " + two.words() + " at " + x + " " + y,
                Integer.toString(shop.relate(0, 1), 4), Integer.toString(matrix(one, two), 4));
        int what = dice.below(9);
        Bench.due("is " + what + " round " + round + " " + one.words() + " / " + two.words(), shop.is(what, 0, 1),
                lieSo(what, matrix(one, two), matrix(one, one) >> 16, matrix(two, two) >> 16));
        for (int p = 0; p <= SIZE; p++) {
            for (int q = 0; q <= SIZE; q++) {
                Bench.due("locate " + round + " " + one.words() + " " + p + " " + q, shop.locate(0, p + x, q + y),
                        where(one, 2 * p, 2 * q));
            }
        }
    }

    private static Told moved(Told told, int x, int y) {
        Told copy = new Told(told.kind);
        for (int[][] row : told.rows) {
            int[][] other = new int[row.length][];
            for (int i = 0; i < row.length; i++) {
                other[i] = new int[] {row[i][0] + x, row[i][1] + y};
            }
            copy.rows.add(other);
        }
        for (Told part : told.parts) {
            copy.parts.add(moved(part, x, y));
        }
        return copy;
    }

    /** Points that follow one another lie in one line or column. */
    private static int[][] path(Bench.Dice dice, int length) {
        int[][] row = new int[length][];
        for (int i = 0; i < length; i++) {
            row[i] = i == 0 ? new int[] {dice.below(SIZE + 1), dice.below(SIZE + 1)} : row[i - 1].clone();
            row[i][dice.below(2)] = dice.below(SIZE + 1);
        }
        return row;
    }

    /** A path and back to its beginning by one corner more; the beginning is told again or not. */
    private static int[][] ring(Bench.Dice dice) {
        int[][] path = path(dice, 1 + dice.below(6));
        int n = path.length;
        boolean closed = dice.below(3) > 0;
        int[][] ring = java.util.Arrays.copyOf(path, closed ? n + 2 : n + 1);
        ring[n] = new int[] {path[0][0], path[n - 1][1]};
        if (closed) {
            ring[n + 1] = path[0].clone();
        }
        return ring;
    }

    private static int[][] box(Bench.Dice dice) {
        int x = dice.below(SIZE);
        int y = dice.below(SIZE);
        int r = x + 1 + dice.below(SIZE - x);
        int t = y + 1 + dice.below(SIZE - y);
        int[][] corners = {{x, y}, {r, y}, {r, t}, {x, t}};
        int first = dice.below(4);
        boolean back = dice.below(2) == 0;
        int[][] ring = new int[5][];
        for (int i = 0; i < 5; i++) {
            ring[i] = corners[(back ? first + 4 - i : first + i) % 4];
        }
        return ring;
    }

    private static Told thrown(Bench.Dice dice) {
        int kind = 1 + dice.below(6);
        Told told = new Told(kind);
        int parts = kind < 4 ? 1 : dice.below(4);
        for (int i = 0; i < parts; i++) {
            Told part = kind < 4 ? told : new Told(kind - 3);
            int sort = part.kind;
            if (sort == 1) {
                part.rows.add(path(dice, dice.below(8) == 0 ? 0 : 1));
            } else if (sort == 2) {
                part.rows.add(path(dice, dice.below(6)));
            } else {
                int rings = dice.below(10) == 0 ? 0 : 1 + dice.below(3);
                for (int k = 0; k < rings; k++) {
                    part.rows.add(dice.below(2) == 0 ? box(dice) : ring(dice));
                }
            }
            if (kind > 3) {
                told.parts.add(part);
            }
        }
        return told;
    }

    /** Where a place is that is told by twice its x and y. */
    private static int where(Told told, int x, int y) {
        int sort = told.kind > 3 ? told.kind - 3 : told.kind;
        boolean on = false;
        boolean odd = false;
        int ends = 0;
        for (int[][] row : told.allRows()) {
            int n = row.length;
            if (sort == 1) {
                on |= n > 0 && 2 * row[0][0] == x && 2 * row[0][1] == y;
                continue;
            }
            for (int i = 0; i < n; i++) {
                ends += (i == 0 ? 1 : 0) * is(row[i], x, y) + (i == n - 1 ? 1 : 0) * is(row[i], x, y);
                if (i == n - 1 && sort == 2) {
                    continue;
                }
                int[] a = row[i];
                int[] b = row[(i + 1) % n];
                if (a[0] == b[0] && a[1] == b[1]) {
                    continue;
                }
                on |= x >= 2 * Math.min(a[0], b[0]) && x <= 2 * Math.max(a[0], b[0]) && y >= 2 * Math.min(a[1], b[1])
                        && y <= 2 * Math.max(a[1], b[1]);
                odd ^= a[0] == b[0] && 2 * a[0] > x && 2 * a[1] > y != 2 * b[1] > y;
            }
        }
        if (sort == 1) {
            return on ? 0 : 2;
        }
        return sort == 2 ? ends % 2 == 1 ? 1 : on ? 0 : 2 : on ? 1 : odd ? 0 : 2;
    }

    private static int is(int[] p, int x, int y) {
        return 2 * p[0] == x && 2 * p[1] == y ? 1 : 0;
    }

    /** By the matrix, and the dimensions of both plus 1. */
    private static boolean lieSo(int what, int matrix, int first, int second) {
        boolean[] has = new boolean[9];
        for (int at = 0; at < 9; at++) {
            has[at] = (matrix >> 16 - 2 * at & 3) != 0;
        }
        boolean within = !has[2] && !has[5];
        boolean contains = !has[6] && !has[7];
        boolean meet = has[0] || has[1] || has[3] || has[4];
        boolean[] are = {first == 0 && second == 0 || has[0] && within && contains, !meet, meet && !has[0],
            first < second && has[0] && has[2] || first > second && has[0] && has[6]
                || first == 2 && second == 2 && matrix >> 16 == 1, has[0] && within, has[0] && contains,
            first == second && first > 0 && matrix >> 16 == first && has[2] && has[6], meet && within,
            meet && contains};
        return are[what];
    }

    private static int matrix(Told one, Told two) {
        int[] matrix = {-1, -1, -1, -1, -1, -1, -1, -1, 2};
        for (int x = -1; x <= 2 * SIZE + 1; x++) {
            for (int y = -1; y <= 2 * SIZE + 1; y++) {
                int at = 3 * where(one, x, y) + where(two, x, y);
                matrix[at] = Math.max(matrix[at], (x & 1) + (y & 1));
            }
        }
        int value = 0;
        for (int dimension : matrix) {
            value = 4 * value + dimension + 1;
        }
        return value;
    }

    /** Two lines on one line, which leads any way: each end of each before, at, behind each end of the other one. */
    private static void onOneLine() {
        int[][] ways = {{1, 0}, {0, 1}, {1, 1}, {1, -1}, {-2, 1}, {3, 7}, {-125000000, 1}, {1, 125000000}};
        for (int[] way : ways) {
            for (int code = 0; code < 256; code++) {
                int[] at = {code & 3, code >> 2 & 3, code >> 4 & 3, code >> 6};
                Told one = new Told(2).row(at[0], 0, at[1], 0);
                Told two = new Told(2).row(at[2], 0, at[3], 0);
                String[] words = new String[2];
                for (int i = 0; i < 2; i++) {
                    words[i] = "LINESTRING (" + (at[2 * i] - 1) * way[0] + " " + (at[2 * i] - 1) * way[1] + ", "
                            + (at[2 * i + 1] - 1) * way[0] + " " + (at[2 * i + 1] - 1) * way[1] + ")";
                }
                ShapeWorkshop shop = Bench.with(words);
                Bench.due("relate " + words[0] + " / " + words[1], Integer.toString(shop.relate(0, 1), 4),
                        Integer.toString(matrix(one, two), 4));
            }
        }
    }

    private static void relateDue(ShapeWorkshop shop, int one, int two, String want) {
        StringBuilder got = new StringBuilder();
        int value = shop.relate(one, two);
        for (int at = 8; at >= 0; at--) {
            got.append("F012".charAt(value >> 2 * at & 3));
        }
        Bench.due("relate " + one + " and " + two, got.toString(), want);
    }

    private static String lines(int n, int x, int y) {
        List<String> lines = new ArrayList<>();
        for (int i = 0; i < n; i++) {
            lines.add("(" + (x + 3 * i) + " " + y + "," + (x + 3 * i + 1) + " " + y + ")");
        }
        return "MULTILINESTRING (" + String.join(",", lines) + ")";
    }

    /** As many lines as there may be segments: twice as many places are on their rim. */
    private static void manyEnds() {
        ShapeWorkshop shop = Bench.with(lines(256, 0, 0), "POINT (766 0)", "POINT (0 0)", "POINT (767 0)",
                lines(128, 0, 5), "LINESTRING (382 5,382 9)", "POINT (382 5)");
        relateDue(shop, 0, 1, "FF10F0FF2");
        relateDue(shop, 0, 2, "FF10F0FF2");
        relateDue(shop, 0, 3, "FF1FF00F2");
        relateDue(shop, 1, 0, "F0FFFF102");
        relateDue(shop, 4, 5, "FF1F00102");
        relateDue(shop, 4, 6, "FF10F0FF2");
        // 128 and 128 lines that meet in their last ends alone, at the far end, and at the near one
        Bench.put(shop, 7, lines(127, 0, 9).replace("))", "),(382 5,383 9))"));
        relateDue(shop, 4, 7, "FF1F00102");
        relateDue(shop, 7, 4, "FF1F00102");
        Bench.put(shop, 7, lines(127, 0, 9).replace("((", "((0 5,-1 9),("));
        relateDue(shop, 4, 7, "FF1F00102");
        // the last end of all, of either shape, in the other one's inside
        Bench.put(shop, 10, lines(127, 0, 5).replace("))", "),(381 5,400 5))"));
        Bench.put(shop, 11, lines(127, 0, 9).replace("))", "),(390 5,391 9))"));
        relateDue(shop, 10, 11, "F01FF0102");
        relateDue(shop, 11, 10, "FF10F0102");
        // what was related before leaves nothing behind
        Bench.put(shop, 8, "LINESTRING (700 0,701 0)");
        Bench.put(shop, 9, "LINESTRING (699 0,703 0)");
        for (int i = 0; i < 10; i++) {
            relateDue(shop, 8, 9, "1FF0FF102");
            relateDue(shop, 9, 8, "101FF0FF2");
            relateDue(shop, 0, 1, "FF10F0FF2");
            relateDue(shop, 4, 7, "FF1F00102");
        }
    }

    /** One line and 255 on it, without gaps but for the last one: each end of each cuts the long one. */
    private static void manyCuts() {
        StringBuilder there = new StringBuilder("MULTILINESTRING ((0 0,10 0)");
        StringBuilder back = new StringBuilder("MULTILINESTRING ((10 0,0 0)");
        for (int i = 1; i < 254; i++) {
            there.append(",(").append(10 * i).append(" 0,").append(10 * i + 10).append(" 0)");
            back.append(",(").append(10 * i + 10).append(" 0,").append(10 * i).append(" 0)");
        }
        ShapeWorkshop shop = Bench.with("LINESTRING (0 0,2550 0)", "LINESTRING (2550 0,0 0)", there
                + ",(2540 0,2550 0))", back + ",(2550 0,2540 0))", there + ",(2545 0,2550 0))", back
                + ",(2550 0,2545 0))");
        for (int one = 0; one < 2; one++) {
            for (int two = 2; two < 4; two++) {
                relateDue(shop, one, two, "1FFF0FFF2");
                relateDue(shop, two, one, "1FFF0FFF2");
                relateDue(shop, one, two + 2, "101F0FFF2");
                relateDue(shop, two + 2, one, "1FF00F1F2");
            }
        }
    }
}
