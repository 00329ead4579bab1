import java.math.BigInteger;

/** A fraction in least terms, the lower number above 0. */
record Fraction(BigInteger upper, BigInteger lower) implements Comparable<Fraction> {
    static Fraction of(BigInteger upper, BigInteger lower) {
        if (lower.signum() < 0) {
            return of(upper.negate(), lower.negate());
        }
        BigInteger common = upper.gcd(lower);
        return new Fraction(upper.divide(common), lower.divide(common));
    }

    static Fraction of(long v) {
        return new Fraction(BigInteger.valueOf(v), BigInteger.ONE);
    }

    Fraction plus(Fraction o) {
        return of(upper.multiply(o.lower).add(o.upper.multiply(lower)), lower.multiply(o.lower));
    }

    Fraction times(long v) {
        return of(upper.multiply(BigInteger.valueOf(v)), lower);
    }

    Fraction over(Fraction o) {
        return of(upper.multiply(o.lower), lower.multiply(o.upper));
    }

    Fraction times(Fraction o) {
        return of(upper.multiply(o.upper), lower.multiply(o.lower));
    }

    Fraction less(Fraction o) {
        return plus(o.times(-1));
    }

    Fraction atLeastNothing() {
        return upper.signum() < 0 ? of(0) : this;
    }

    @Override
    public int compareTo(Fraction o) {
        return upper.multiply(o.lower).compareTo(o.upper.multiply(lower));
    }

    long part(int what) {
        return (what == 0 ? upper : lower).longValueExact();
    }
}
