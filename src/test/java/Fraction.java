import java.math.BigInteger;

/** An exact fraction in lowest terms, for the oracle alone. */
final class Fraction implements Comparable<Fraction> {
    static final Fraction ZERO = of(0, 1);
    static final Fraction ONE = of(1, 1);

    final BigInteger above;
    final BigInteger below;

    private Fraction(BigInteger a, BigInteger b) {
        BigInteger g = a.gcd(b);
        if (b.signum() < 0) {
            g = g.negate();
        }
        above = a.divide(g);
        below = b.divide(g);
    }

    static Fraction of(long a, long b) {
        return new Fraction(BigInteger.valueOf(a), BigInteger.valueOf(b));
    }

    Fraction plus(Fraction o) {
        return new Fraction(above.multiply(o.below).add(o.above.multiply(below)), below.multiply(o.below));
    }

    Fraction minus(Fraction o) {
        return new Fraction(above.multiply(o.below).subtract(o.above.multiply(below)), below.multiply(o.below));
    }

    Fraction times(Fraction o) {
        return new Fraction(above.multiply(o.above), below.multiply(o.below));
    }

    Fraction by(Fraction o) {
        return new Fraction(above.multiply(o.below), below.multiply(o.above));
    }

    Fraction amount() {
        return new Fraction(above.abs(), below);
    }

    boolean isZero() {
        return above.signum() == 0;
    }

    long side(int what) {
        return (what == 0 ? above : below).longValueExact();
    }

    @Override
    public int compareTo(Fraction o) {
        return above.multiply(o.below).compareTo(o.above.multiply(below));
    }
}
