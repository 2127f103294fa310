import java.math.BigInteger;

/** A fraction of any length in lowest terms, for the model. */
final class Fraction {
    static final Fraction ZERO = of(0);
    static final Fraction ONE = of(1);

    final BigInteger upper;
    final BigInteger lower;

    private Fraction(BigInteger upper, BigInteger lower) {
        BigInteger common = upper.gcd(lower);
        BigInteger signed = lower.signum() < 0 ? common.negate() : common;
        this.upper = upper.divide(signed);
        this.lower = lower.divide(signed);
    }

    static Fraction of(long number) {
        return new Fraction(BigInteger.valueOf(number), BigInteger.ONE);
    }

    Fraction plus(Fraction other) {
        return new Fraction(upper.multiply(other.lower).add(other.upper.multiply(lower)), lower.multiply(other.lower));
    }

    Fraction times(Fraction other) {
        return new Fraction(upper.multiply(other.upper), lower.multiply(other.lower));
    }

    Fraction by(Fraction other) {
        return new Fraction(upper.multiply(other.lower), lower.multiply(other.upper));
    }

    Fraction minus(Fraction other) {
        return plus(other.times(of(-1)));
    }

    boolean isZero() {
        return upper.signum() == 0;
    }

    boolean isAbove(Fraction other) {
        return minus(other).upper.signum() > 0;
    }

    /** The upper (0) or the lower (1) number. */
    long part(int what) {
        return (what == 0 ? upper : lower).longValueExact();
    }

    /** Solves rows of equations, the last column being what is due; null if there is not just one answer. */
    static Fraction[] solve(Fraction[][] rows, int unknowns) {
        for (int column = 0; column < unknowns; column++) {
            int with = column;
            while (with < rows.length && rows[with][column].isZero()) {
                with++;
            }
            if (with == rows.length) {
                return null;
            }
            Fraction[] pivot = rows[with];
            rows[with] = rows[column];
            rows[column] = pivot;
            for (Fraction[] row : rows) {
                if (row != pivot && !row[column].isZero()) {
                    Fraction times = row[column].by(pivot[column]);
                    for (int at = 0; at <= unknowns; at++) {
                        row[at] = row[at].minus(times.times(pivot[at]));
                    }
                }
            }
        }
        Fraction[] answer = new Fraction[unknowns];
        for (int at = 0; at < unknowns; at++) {
            answer[at] = rows[at][unknowns].by(rows[at][at]);
        }
        return answer;
    }
}
