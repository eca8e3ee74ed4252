import java.math.BigInteger;

/** A fraction of any size, for tests that work things out another way. */
record Fraction(BigInteger above, BigInteger below) implements Comparable<Fraction> {
    static final Fraction ZERO = of(0);

    static Fraction of(long x) {
        return new Fraction(BigInteger.valueOf(x), BigInteger.ONE);
    }

    private static Fraction reduced(BigInteger above, BigInteger below) {
        BigInteger shared = above.gcd(below);
        BigInteger sign = BigInteger.valueOf(below.signum());
        return new Fraction(above.multiply(sign).divide(shared), below.multiply(sign).divide(shared));
    }

    Fraction plus(Fraction o) {
        return reduced(above.multiply(o.below).add(o.above.multiply(below)), below.multiply(o.below));
    }

    Fraction minus(Fraction o) {
        return plus(o.times(of(-1)));
    }

    Fraction times(Fraction o) {
        return reduced(above.multiply(o.above), below.multiply(o.below));
    }

    Fraction by(Fraction o) {
        return reduced(above.multiply(o.below), below.multiply(o.above));
    }

    int sign() {
        return above.signum();
    }

    @Override
    public int compareTo(Fraction o) {
        return above.multiply(o.below).compareTo(o.above.multiply(below));
    }

    long part(int what) {
        return (what == 0 ? above : below).longValueExact();
    }
}
