import java.math.BigInteger;

/** An exact fraction, for the tests' own reckoning: small ones in longs, since that is quicker, others in full. */
final class Frac implements Comparable<Frac> {
    static final Frac ZERO = of(0);
    static final Frac ONE = of(1);
    static final Frac HALF = of(1, 2);
    private static final long SMALL = 1L << 30;

    private final long top;
    private final long bottom;
    /** The same in full, when it is not small. */
    private final BigInteger fullTop;
    private final BigInteger fullBottom;

    private Frac(long top, long bottom) {
        this.top = top;
        this.bottom = bottom;
        fullTop = null;
        fullBottom = null;
    }

    private Frac(BigInteger top, BigInteger bottom) {
        this.top = 0;
        this.bottom = 0;
        fullTop = top;
        fullBottom = bottom;
    }

    static Frac of(long value) {
        return of(value, 1);
    }

    static Frac of(long top, long bottom) {
        long t = bottom < 0 ? -top : top;
        long b = Math.abs(bottom);
        if (!isSmall(t, b)) {
            long common = gcd(Math.abs(t), b);
            t /= common;
            b /= common;
        }
        return isSmall(t, b) ? new Frac(t, b) : new Frac(BigInteger.valueOf(t), BigInteger.valueOf(b));
    }

    private static Frac of(BigInteger top, BigInteger bottom) {
        BigInteger common = bottom.bitLength() > 700 ? top.gcd(bottom) : BigInteger.ONE;
        if (bottom.signum() < 0) {
            common = common.negate();
        }
        return common.equals(BigInteger.ONE) ? new Frac(top, bottom)
                : new Frac(top.divide(common), bottom.divide(common));
    }

    private static boolean isSmall(long t, long b) {
        return t < SMALL && t > -SMALL && b < SMALL;
    }

    private static long gcd(long a, long b) {
        return b == 0 ? a : gcd(b, a % b);
    }

    private boolean isSmall() {
        return fullTop == null;
    }

    private BigInteger top() {
        return isSmall() ? BigInteger.valueOf(top) : fullTop;
    }

    private BigInteger bottom() {
        return isSmall() ? BigInteger.valueOf(bottom) : fullBottom;
    }

    Frac plus(Frac other) {
        if (isSmall() && other.isSmall()) {
            return of(top * other.bottom + other.top * bottom, bottom * other.bottom);
        }
        if (bottom().equals(other.bottom())) {
            return of(top().add(other.top()), bottom());
        }
        return of(top().multiply(other.bottom()).add(other.top().multiply(bottom())),
                bottom().multiply(other.bottom()));
    }

    Frac minus(Frac other) {
        return plus(other.isSmall() ? new Frac(-other.top, other.bottom)
                : new Frac(other.fullTop.negate(), other.fullBottom));
    }

    Frac times(Frac other) {
        if (isSmall() && other.isSmall()) {
            return of(top * other.top, bottom * other.bottom);
        }
        return of(top().multiply(other.top()), bottom().multiply(other.bottom()));
    }

    Frac over(Frac other) {
        if (isSmall() && other.isSmall()) {
            return of(top * other.bottom, bottom * other.top);
        }
        return of(top().multiply(other.bottom()), bottom().multiply(other.top()));
    }

    int sign() {
        return isSmall() ? Long.signum(top) : fullTop.signum();
    }

    /** The greatest whole number that is not above. */
    long floor() {
        if (isSmall()) {
            return Math.floorDiv(top, bottom);
        }
        BigInteger[] parts = fullTop.divideAndRemainder(fullBottom);
        return (parts[1].signum() < 0 ? parts[0].subtract(BigInteger.ONE) : parts[0]).longValueExact();
    }

    @Override
    public int compareTo(Frac other) {
        if (isSmall() && other.isSmall()) {
            return Long.compare(top * other.bottom, other.top * bottom);
        }
        return top().multiply(other.bottom()).compareTo(other.top().multiply(bottom()));
    }

    @Override
    public boolean equals(Object other) {
        return other instanceof Frac && compareTo((Frac) other) == 0;
    }

    @Override
    public int hashCode() {
        return Long.hashCode(floor());
    }

    @Override
    public String toString() {
        return top() + (bottom().equals(BigInteger.ONE) ? "" : "/" + bottom());
    }
}
