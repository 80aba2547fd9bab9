/** Shapes thrown with dice, for the tests that compare with an oracle. */
final class Shapes {
    private Shapes() {
    }

    /** A way of placing small whole numbers in the plane: as they are, or turned, stretched and moved far. */
    static final class Spread {
        final long xx;
        final long xy;
        final long yx;
        final long yy;
        final long x;
        final long y;

        private Spread(long xx, long xy, long yx, long yy, long x, long y) {
            this.xx = xx;
            this.xy = xy;
            this.yx = yx;
            this.yy = yy;
            this.x = x;
            this.y = y;
        }

        static final Spread NONE = new Spread(1, 0, 0, 1, 0, 0);

        /** Numbers 0 .. size come to lie between -limit and limit. */
        static Spread thrown(Bench.Dice dice, int size, int limit) {
            if (dice.below(3) > 0) {
                return NONE;
            }
            int most = limit / size;
            for (int i = 0; i < 100; i++) {
                long a = dice.from(-most, most);
                long b = dice.from(-most, most);
                long c = dice.from(-most, most);
                long d = dice.from(-most, most);
                if (a * d - b * c != 0) {
                    return new Spread(a, b, c, d, (-a - b) * size / 2, (-c - d) * size / 2);
                }
            }
            return NONE;
        }

        int[] at(int px, int py) {
            return new int[] {(int) (xx * px + xy * py + x), (int) (yx * px + yy * py + y)};
        }
    }

    static int[][] row(Bench.Dice dice, Spread spread, int size, int length, boolean closed) {
        int[][] row = new int[length][];
        for (int i = 0; i < length; i++) {
            row[i] = spread.at(dice.below(size + 1), dice.below(size + 1));
        }
        if (closed && length > 1) {
            row[length - 1] = row[0].clone();
        }
        return row;
    }

    /** A box, a triangle, or a rhomb, closed, from one corner or another, in one direction or the other. */
    static int[][] simpleRing(Bench.Dice dice, Spread spread, int size) {
        int w = 1 + dice.below(Math.max(1, size - 1));
        int h = 1 + dice.below(Math.max(1, size - 1));
        int x = dice.below(Math.max(1, size - w + 1));
        int y = dice.below(Math.max(1, size - h + 1));
        int[][] corners;
        switch (dice.below(4)) {
            case 0:
                corners = new int[][] {{x, y}, {x + w, y}, {x, y + h}};
                break;
            case 1:
                corners = new int[][] {{x, y}, {x + w, y}, {x + w, y + h}};
                break;
            case 2:
                corners = w > 1 && h > 1
                        ? new int[][] {{x + w / 2, y}, {x + w, y + h / 2}, {x + w / 2, y + h}, {x, y + h / 2}}
                        : new int[][] {{x, y}, {x + w, y}, {x + w, y + h}, {x, y + h}};
                break;
            default:
                corners = new int[][] {{x, y}, {x + w, y}, {x + w, y + h}, {x, y + h}};
                break;
        }
        int n = corners.length;
        int first = dice.below(n);
        boolean back = dice.below(2) == 0;
        int[][] ring = new int[n + 1][];
        for (int i = 0; i <= n; i++) {
            int[] c = corners[((back ? first - i : first + i) % n + n) % n];
            ring[i] = spread.at(c[0], c[1]);
        }
        return ring;
    }

    static Told polygon(Bench.Dice dice, Spread spread, int size, int rings, boolean simple) {
        Told told = new Told(3);
        for (int i = 0; i < rings; i++) {
            if (simple) {
                told.rows.add(simpleRing(dice, spread, size));
            } else {
                told.rows.add(row(dice, spread, size, 2 + dice.below(dice.below(12) == 0 ? 22 : 6), true));
            }
        }
        return told;
    }

    static Told area(Bench.Dice dice, Spread spread, int size, boolean simple) {
        if (dice.below(2) == 0) {
            return polygon(dice, spread, size, dice.below(8) == 0 ? 0 : 1 + dice.below(3), simple);
        }
        Told told = new Told(6);
        int parts = dice.below(4);
        for (int i = 0; i < parts; i++) {
            told.parts.add(polygon(dice, spread, size, dice.below(8) == 0 ? 0 : 1 + dice.below(2), simple));
        }
        return told;
    }

    static Told lines(Bench.Dice dice, Spread spread, int size) {
        if (dice.below(2) == 0) {
            Told told = new Told(2);
            told.rows.add(row(dice, spread, size, dice.below(6), dice.below(3) == 0));
            return told;
        }
        Told told = new Told(5);
        int parts = dice.below(4);
        for (int i = 0; i < parts; i++) {
            Told part = new Told(2);
            part.rows.add(row(dice, spread, size, dice.below(4), dice.below(4) == 0));
            told.parts.add(part);
        }
        return told;
    }

    static Told points(Bench.Dice dice, Spread spread, int size) {
        if (dice.below(2) == 0) {
            Told told = new Told(1);
            told.rows.add(row(dice, spread, size, dice.below(5) == 0 ? 0 : 1, false));
            return told;
        }
        Told told = new Told(4);
        int parts = dice.below(6);
        for (int i = 0; i < parts; i++) {
            Told part = new Told(1);
            part.rows.add(row(dice, spread, size, dice.below(5) == 0 ? 0 : 1, false));
            told.parts.add(part);
        }
        return told;
    }

    static Told any(Bench.Dice dice, Spread spread, int size) {
        switch (dice.below(4)) {
            case 0:
                return points(dice, spread, size);
            case 1:
                return lines(dice, spread, size);
            default:
                return area(dice, spread, size, dice.below(2) == 0);
        }
    }
}
