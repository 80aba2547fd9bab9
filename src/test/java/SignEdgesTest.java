/** Promises 31 to 33, the edges: points at first, the least and the greatest numbers, signs by the least there is. */
public final class SignEdgesTest {
    private static final long MINUS = Long.MIN_VALUE;
    private static final long ONE = 0x3FF0000000000000L;
    private static final long LEAST = 1L;
    private static final long LEAST_NORMAL = 1L << 52;
    private static final long MOST = 0x7FEFFFFFFFFFFFFFL;

    private static ShapeWorkshop shop;

    public static void main(String[] args) {
        atFirst();
        whichNumbers();
        zeros();
        sides();
        circles();
        repeated();
        Bench.close("SignEdgesTest");
    }

    private static void put(int i, long x, long y) {
        shop.point(i, x, y);
    }

    private static void atFirst() {
        shop = new ShapeWorkshop(3);
        for (int i = 0; i < 32; i++) {
            int j = (i + 5) % 32;
            Bench.due("side at first", shop.side(i, j, 31 - i), 0);
            Bench.due("circle at first", shop.circle(i, j, 31 - i, 3), 0);
        }
        put(0, ONE, 0);
        put(31, 0, ONE);
        for (int i = 1; i < 31; i++) {
            Bench.due("a point at 0", shop.side(i, 0, 31), 1);
            Bench.due("a point at 0", shop.side(i, 31, 0), -1);
        }
    }

    private static String outcome(int i, long x, long y) {
        return Bench.outcome(() -> {
            shop.point(i, x, y);
            return 0;
        });
    }

    /** E of 0 to 2046 are numbers, of 2047 none, whatever the sign and F. */
    private static void whichNumbers() {
        long[] fractions = {0, 1, 1L << 51, (1L << 52) - 1};
        for (int power = 0; power < 2048; power++) {
            for (long fraction : fractions) {
                for (int sign = 0; sign < 2; sign++) {
                    long bits = (long) sign << 63 | (long) power << 52 | fraction;
                    String due = power == 2047 ? Bench.ARGUMENT : "0";
                    Bench.due("x of E " + power, outcome(power % 32, bits, 0), due);
                    Bench.due("y of E " + power, outcome(power % 32, 0, bits), due);
                }
            }
        }
        for (int i : new int[] {-1, 32, Integer.MIN_VALUE, Integer.MAX_VALUE}) {
            Bench.due("point " + i, outcome(i, ONE, ONE), Bench.INDEX);
            Bench.due("point " + i + " of no number", outcome(i, -1L, -1L), Bench.INDEX);
        }
    }

    private static void zeros() {
        shop = new ShapeWorkshop(0);
        long[] zero = {0, MINUS};
        for (long a : zero) {
            for (long b : zero) {
                put(0, a, b);
                put(1, ONE, b);
                put(2, a, ONE);
                put(3, ONE, ONE);
                Bench.due("left", shop.side(0, 1, 2), 1);
                Bench.due("right", shop.side(0, 2, 1), -1);
                Bench.due("on one circle", shop.circle(0, 1, 3, 2), 0);
                put(4, b, a);
                Bench.due("the same point", shop.side(0, 4, 3), 0);
                Bench.due("the same point", shop.circle(0, 1, 2, 4), 0);
            }
        }
    }

    /** Three points, and what is due of them in all orders, each number with the other sign, and x for y. */
    private static void sideDue(long[] xy, int due) {
        for (int way = 0; way < 8; way++) {
            int sign = due;
            long x = (way & 1) != 0 ? MINUS : 0;
            long y = (way & 2) != 0 ? MINUS : 0;
            sign *= (way & 1) != 0 ? -1 : 1;
            sign *= (way & 2) != 0 ? -1 : 1;
            sign *= (way & 4) != 0 ? -1 : 1;
            for (int i = 0; i < 3; i++) {
                long a = xy[2 * i] ^ x;
                long b = xy[2 * i + 1] ^ y;
                put(i, (way & 4) != 0 ? b : a, (way & 4) != 0 ? a : b);
            }
            String name = "side " + way + " of " + Long.toHexString(xy[2]) + " " + Long.toHexString(xy[3]);
            Bench.due(name, shop.side(0, 1, 2), sign);
            Bench.due(name, shop.side(1, 2, 0), sign);
            Bench.due(name, shop.side(2, 0, 1), sign);
            Bench.due(name, shop.side(1, 0, 2), -sign);
            Bench.due(name, shop.side(0, 2, 1), -sign);
            Bench.due(name, shop.side(2, 1, 0), -sign);
        }
    }

    private static void sides() {
        shop = new ShapeWorkshop(0);
        sideDue(new long[] {0, 0, LEAST, 0, 0, LEAST}, 1);
        sideDue(new long[] {0, 0, MOST, 0, 0, MOST}, 1);
        sideDue(new long[] {0, 0, MOST, 0, 0, LEAST}, 1);
        sideDue(new long[] {MOST | MINUS, MOST | MINUS, MOST, MOST, 0, 0}, 0);
        sideDue(new long[] {MOST | MINUS, MOST | MINUS, MOST, MOST, 0, LEAST}, 1);
        sideDue(new long[] {MOST | MINUS, MOST | MINUS, MOST, MOST, LEAST, 0}, -1);
        sideDue(new long[] {MOST | MINUS, MOST | MINUS, MOST, MOST - 1, 0, 0}, 1);
        sideDue(new long[] {MOST | MINUS, MOST | MINUS, MOST, MOST - 1, LEAST, LEAST}, 1);
        // E of 1 goes on where E of 0 ends
        sideDue(new long[] {0, 0, LEAST_NORMAL - 1, LEAST_NORMAL, LEAST_NORMAL, LEAST_NORMAL + 1}, -1);
        sideDue(new long[] {LEAST_NORMAL - 1, 0, LEAST_NORMAL, LEAST, LEAST_NORMAL + 1, LEAST + 1}, 0);
        sideDue(new long[] {0, 0, LEAST_NORMAL, LEAST_NORMAL, 2 * LEAST_NORMAL, 2 * LEAST_NORMAL}, 0);
        for (int power = 0; power < 60; power++) {
            // a half, once, twice and four times, whether E goes on or F does; and by the last bit there is
            long once = power < 51 ? 2L << power : (long) (power - 50) << 52;
            long half = power < 52 ? once >> 1 : once - LEAST_NORMAL;
            long twice = power < 51 ? once << 1 : once + LEAST_NORMAL;
            long fourTimes = power < 50 ? twice << 1 : twice + LEAST_NORMAL;
            sideDue(new long[] {0, 0, half, once, twice, fourTimes}, 0);
            sideDue(new long[] {0, 0, half, once, twice, fourTimes + 1}, 1);
            sideDue(new long[] {0, 0, half, once + 1, twice, fourTimes}, -1);
            sideDue(new long[] {half, half, once, once, fourTimes, fourTimes - 1}, -1);
        }
        // by the last bit of numbers near 1, and of products that no 64 bits hold
        sideDue(new long[] {0, 0, ONE, ONE, ONE + 1, ONE + 1}, 0);
        sideDue(new long[] {0, 0, ONE, ONE, ONE + 1, ONE + 2}, 1);
        sideDue(new long[] {0, 0, ONE, ONE + 1, ONE + 1, ONE + 2}, -1);
        sideDue(new long[] {ONE, ONE, ONE + 1, ONE + 1, MOST, MOST}, 0);
        sideDue(new long[] {ONE, ONE, ONE + 1, ONE + 1, MOST, MOST - 1}, -1);
        sideDue(new long[] {LEAST, 0, ONE, ONE, MOST, MOST}, -1);
        sideDue(new long[] {0, 0, LEAST, LEAST, MOST, MOST}, 0);
        sideDue(new long[] {0, 0, LEAST, LEAST, MOST, MOST - 1}, -1);
    }

    /** Three points left round and a fourth one; of another order of the three, or mirrored, the sign turns. */
    private static void circleDue(long[] xy, int due) {
        for (int way = 0; way < 4; way++) {
            long x = (way & 1) != 0 ? MINUS : 0;
            long y = (way & 2) != 0 ? MINUS : 0;
            int sign = way == 1 || way == 2 ? -due : due;
            for (int i = 0; i < 4; i++) {
                put(28 + i, xy[2 * i] ^ x, xy[2 * i + 1] ^ y);
            }
            String name = "circle " + way + " of " + Long.toHexString(xy[6]) + " " + Long.toHexString(xy[7]);
            Bench.due(name, shop.circle(28, 29, 30, 31), sign);
            Bench.due(name, shop.circle(29, 30, 28, 31), sign);
            Bench.due(name, shop.circle(30, 28, 29, 31), sign);
            Bench.due(name, shop.circle(29, 28, 30, 31), -sign);
            Bench.due(name, shop.circle(28, 30, 29, 31), -sign);
        }
    }

    private static void circles() {
        long[] sizes = {LEAST, LEAST_NORMAL, ONE, MOST};
        for (long r : sizes) {
            // through r 0, 0 r and -r 0, round 0 0
            long[] round = {r, 0, 0, r, r | MINUS, 0, 0, r | MINUS};
            circleDue(round, 0);
            circleDue(new long[] {r, 0, 0, r, r | MINUS, 0, 0, 0}, 1);
            circleDue(new long[] {r, 0, 0, r, r | MINUS, 0, 0, r - 1 | MINUS}, 1);
            circleDue(new long[] {r, 0, 0, r, r | MINUS, 0, r, r}, -1);
            if (r != MOST) {
                circleDue(new long[] {r, 0, 0, r, r | MINUS, 0, 0, r + 1 | MINUS}, -1);
            }
            circleDue(new long[] {r, 0, 0, r, r | MINUS, 0, LEAST, r | MINUS}, -1);
            circleDue(new long[] {r, 0, 0, r, r | MINUS, 0, 0, r}, 0);
        }
        // of three on one line left of it is inside
        circleDue(new long[] {0, 0, ONE, 0, MOST, 0, 0, LEAST}, 1);
        circleDue(new long[] {0, 0, ONE, 0, MOST, 0, LEAST, 0}, 0);
        circleDue(new long[] {0, 0, LEAST, 0, 0, LEAST, LEAST, LEAST}, 0);
        circleDue(new long[] {0, 0, LEAST, 0, 0, LEAST, LEAST, LEAST + 1}, -1);
        circleDue(new long[] {0, 0, LEAST + 1, 0, 0, LEAST + 1, LEAST, LEAST}, 1);
        circleDue(new long[] {0, 0, MOST, 0, 0, MOST, MOST, MOST}, 0);
        circleDue(new long[] {0, 0, MOST, 0, 0, MOST, MOST, MOST - 1}, 1);
        circleDue(new long[] {LEAST, 0, MOST, 0, 0, MOST, MOST, MOST}, 1);
    }

    private static void repeated() {
        put(0, ONE, MOST);
        put(1, MOST | MINUS, LEAST);
        put(2, ONE + 5, ONE);
        for (int i = 0; i < 3; i++) {
            for (int j = 0; j < 3; j++) {
                Bench.due("a point twice", shop.side(i, i, j) + shop.side(i, j, i) + shop.side(j, i, i), 0);
                Bench.due("a point twice", shop.side(i, i, j), 0);
                Bench.due("a point twice", shop.circle(i, i, j, 2), 0);
                Bench.due("a point twice", shop.circle(i, j, i, 2), 0);
                Bench.due("a point twice", shop.circle(i, 2, j, i), 0);
                Bench.due("a point twice", shop.circle(2, i, j, j), 0);
            }
        }
    }
}
