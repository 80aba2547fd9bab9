import java.math.BigDecimal;

/** Promises 31 to 33: points of binary fractions, and signs without any rounding. */
public final class SignsTest {
    private static final long[] ODD = {0L, Long.MIN_VALUE, 1L, 0x800FFFFFFFFFFFFFL, 0x0010000000000000L,
        0x7FEFFFFFFFFFFFFFL, 0xFFEFFFFFFFFFFFFFL, 0x000FFFFFFFFFFFFFL, 0x8000000000000001L};

    public static void main(String[] args) {
        edges();
        int[] rounds = Bench.rounds(args, 4000);
        ShapeWorkshop shop = null;
        for (int round = rounds[0]; round <= rounds[1]; round++) {
            if (shop == null || round % 16 == 0) {
                shop = new ShapeWorkshop(0);
            }
            compare(round, shop, new Bench.Dice(round + 99L));
        }
        Bench.close("SignsTest");
    }

    private static long bits(double value) {
        return Double.doubleToRawLongBits(value);
    }

    private static void edges() {
        ShapeWorkshop shop = new ShapeWorkshop(0);
        Bench.due("side of points at 0", shop.side(0, 1, 2), 0);
        Bench.due("circle of points at 0", shop.circle(0, 1, 2, 3), 0);
        shop.point(0, bits(0), bits(0));
        shop.point(1, bits(1), bits(0));
        shop.point(31, bits(0), bits(1));
        Bench.due("left", shop.side(0, 1, 31), 1);
        Bench.due("right", shop.side(1, 0, 31), -1);
        Bench.due("one point twice", shop.side(1, 1, 31), 0);
        shop.point(3, bits(Double.MIN_VALUE), bits(Double.MIN_VALUE));
        Bench.due("inside by the least there is", shop.circle(0, 1, 31, 3), 1);
        shop.point(3, bits(-Double.MIN_VALUE), bits(0));
        Bench.due("outside by the least there is", shop.circle(0, 1, 31, 3), -1);
        Bench.due("right round", shop.circle(1, 0, 31, 3), 1);
        shop.point(3, bits(1), bits(1));
        Bench.due("on the circle", shop.circle(0, 1, 31, 3), 0);
        shop.point(5, Long.MIN_VALUE, Long.MIN_VALUE);
        Bench.due("minus 0 is 0", shop.side(5, 0, 31), 0);
        String[] calls = {"x infinite", "y infinite", "x no number", "y no number"};
        long[][] wrong = {{0x7FF0000000000000L, 0}, {0, 0xFFF0000000000000L}, {0x7FF8000000000000L, 0},
            {0, 0xFFFFFFFFFFFFFFFFL}};
        for (int i = 0; i < 4; i++) {
            long[] xy = wrong[i];
            Bench.outcomeDue(calls[i], () -> put(shop, 1, xy[0], xy[1]), Bench.ARGUMENT);
            Bench.outcomeDue(calls[i] + ", no such point", () -> put(shop, 32, xy[0], xy[1]), Bench.INDEX);
        }
        Bench.due("what was refused changed nothing", shop.side(0, 1, 31), 1);
        for (int i : new int[] {-1, 32, Integer.MIN_VALUE, Integer.MAX_VALUE}) {
            Bench.outcomeDue("point " + i, () -> put(shop, i, 0, 0), Bench.INDEX);
            Bench.outcomeDue("side i " + i, () -> shop.side(i, 0, 0), Bench.INDEX);
            Bench.outcomeDue("side j " + i, () -> shop.side(0, i, 0), Bench.INDEX);
            Bench.outcomeDue("side k " + i, () -> shop.side(0, 0, i), Bench.INDEX);
            Bench.outcomeDue("circle i " + i, () -> shop.circle(i, 0, 0, 0), Bench.INDEX);
            Bench.outcomeDue("circle j " + i, () -> shop.circle(0, i, 0, 0), Bench.INDEX);
            Bench.outcomeDue("circle k " + i, () -> shop.circle(0, 0, i, 0), Bench.INDEX);
            Bench.outcomeDue("circle l " + i, () -> shop.circle(0, 0, 0, i), Bench.INDEX);
        }
    }

    private static long put(ShapeWorkshop shop, int i, long x, long y) {
        shop.point(i, x, y);
        return 0;
    }

    private static long thrown(Bench.Dice dice, int way) {
        switch (way) {
            case 0:
                return bits(dice.below(5) - 2);
            case 1:
                return bits((dice.below(9) - 4) * 0.1);
            case 2:
                return ODD[dice.below(ODD.length)];
            case 3:
                long any = dice.next();
                return (any >>> 52 & 2047) == 2047 ? any & ~(1L << 62) : any;
            case 4:
                return bits(1 + dice.below(4) * Math.ulp(1.0));
            default:
                return bits(Math.scalb((double) (dice.below(7) - 3), dice.below(12) * 170 - 1074));
        }
    }

    private static void compare(int round, ShapeWorkshop shop, Bench.Dice dice) {
        int way = dice.below(6);
        boolean mixed = dice.below(3) == 0;
        BigDecimal[][] p = new BigDecimal[4][2];
        for (int i = 0; i < 4; i++) {
            long x = thrown(dice, mixed ? dice.below(6) : way);
            long y = thrown(dice, mixed ? dice.below(6) : way);
            shop.point(8 * i, x, y);
            p[i][0] = new BigDecimal(Double.longBitsToDouble(x));
            p[i][1] = new BigDecimal(Double.longBitsToDouble(y));
        }
        for (int i = 0; i < 4; i++) {
            int j = (i + 1) % 4;
            int k = (i + 2) % 4;
            int l = (i + 3) % 4;
            Bench.due("side " + round, shop.side(8 * i, 8 * j, 8 * k), turn(p[i], p[j], p[k]).signum());
            BigDecimal sum = BigDecimal.ZERO;
            for (BigDecimal[][] row : new BigDecimal[][][] {{p[i], p[j], p[k]}, {p[j], p[k], p[i]},
                {p[k], p[i], p[j]}}) {
                BigDecimal a = row[0][0].subtract(p[l][0]);
                BigDecimal b = row[0][1].subtract(p[l][1]);
                sum = sum.add(a.multiply(a).add(b.multiply(b)).multiply(turn(p[l], row[1], row[2])));
            }
            Bench.due("circle " + round, shop.circle(8 * i, 8 * j, 8 * k, 8 * l), sum.signum());
        }
    }

    private static BigDecimal turn(BigDecimal[] a, BigDecimal[] b, BigDecimal[] c) {
        return b[0].subtract(a[0]).multiply(c[1].subtract(a[1]))
                .subtract(b[1].subtract(a[1]).multiply(c[0].subtract(a[0])));
    }
}
