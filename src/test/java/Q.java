import java.math.BigInteger;

/** An exact fraction in lowest terms, for the model that the tests compare with. */
final class Q {
    static final Q ZERO = of(0);
    static final Q ONE = of(1);

    final BigInteger num;
    final BigInteger den;

    private Q(BigInteger num, BigInteger den) {
        BigInteger g = num.gcd(den);
        if (den.signum() < 0) {
            g = g.negate();
        }
        this.num = num.divide(g);
        this.den = den.divide(g);
    }

    static Q of(long value) {
        return new Q(BigInteger.valueOf(value), BigInteger.ONE);
    }

    boolean isZero() {
        return num.signum() == 0;
    }

    Q plus(Q other) {
        return new Q(num.multiply(other.den).add(other.num.multiply(den)), den.multiply(other.den));
    }

    Q minus(Q other) {
        return plus(other.times(of(-1)));
    }

    Q times(Q other) {
        return new Q(num.multiply(other.num), den.multiply(other.den));
    }

    Q over(Q other) {
        return new Q(num.multiply(other.den), den.multiply(other.num));
    }

    Q floor() {
        BigInteger[] parts = num.divideAndRemainder(den);
        return new Q(parts[1].signum() < 0 ? parts[0].subtract(BigInteger.ONE) : parts[0], BigInteger.ONE);
    }

    long part(int what) {
        return (what == 0 ? num : den).longValueExact();
    }
}
