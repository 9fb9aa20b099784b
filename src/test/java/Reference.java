import java.math.BigDecimal;

/**
 * The values of the functions by another way than the program's: real numbers as BigDecimals, and intervals cut
 * at 0 into pieces of one sign, on which each function is monotone.
 */
final class Reference {
    static final Reference EMPTY = new Reference(Double.POSITIVE_INFINITY, Double.NEGATIVE_INFINITY);

    final double lower;
    final double upper;

    Reference(double lower, double upper) {
        this.lower = lower;
        this.upper = upper;
    }

    boolean isEmpty() {
        return lower > upper;
    }

    boolean isBounded() {
        return !isEmpty() && !Double.isInfinite(lower) && !Double.isInfinite(upper);
    }

    boolean has(double d) {
        return lower <= d && d <= upper;
    }

    Reference hull(Reference other) {
        return new Reference(Math.min(lower, other.lower), Math.max(upper, other.upper));
    }

    Reference negated() {
        return new Reference(-upper, -lower);
    }

    /** A real number's comparison with what is sought: negative when the double is less. */
    interface Sought {
        int compare(BigDecimal d);
    }

    /** The neighbour of what is sought, starting from a double that is near it. */
    static double rounded(double near, Sought sought, boolean up) {
        double d = Double.isInfinite(near) ? Math.copySign(Double.MAX_VALUE, near) : near;
        while (!Double.isInfinite(d) && sought.compare(new BigDecimal(d)) < 0) {
            d = Math.nextUp(d);
        }
        while (!Double.isInfinite(d) && sought.compare(new BigDecimal(d)) > 0) {
            d = Math.nextDown(d);
        }
        // Now d is the greatest double that is not greater, or minus infinity; or plus infinity, passed by.
        if (d == Double.POSITIVE_INFINITY) {
            return up ? d : Double.MAX_VALUE;
        }
        boolean exact = !Double.isInfinite(d) && sought.compare(new BigDecimal(d)) == 0;
        return up && !exact ? Math.nextUp(d) : d;
    }

    static double decimal(BigDecimal value, boolean up) {
        return rounded(value.doubleValue(), d -> d.compareTo(value), up);
    }

    static double sum(double a, double b, boolean up) {
        return Double.isInfinite(a + b) && (Double.isInfinite(a) || Double.isInfinite(b))
            ? a + b : decimal(new BigDecimal(a).add(new BigDecimal(b)), up);
    }

    static double product(double a, double b, boolean up) {
        if (a == 0 || b == 0) {
            return 0;
        }
        if (Double.isInfinite(a) || Double.isInfinite(b)) {
            return a * b;
        }
        BigDecimal exact = new BigDecimal(a).multiply(new BigDecimal(b));
        return rounded(a * b, d -> d.compareTo(exact), up);
    }

    /** Of two numbers that are not negative; by 0 it is infinite. */
    static double quotient(double a, double b, boolean up) {
        if (a == 0 || Double.isInfinite(b)) {
            return 0;
        }
        if (b == 0 || Double.isInfinite(a)) {
            return Double.POSITIVE_INFINITY;
        }
        BigDecimal dividend = new BigDecimal(a);
        BigDecimal divisor = new BigDecimal(b);
        return rounded(a / b, d -> d.multiply(divisor).compareTo(dividend), up);
    }

    static double root(double a, boolean up) {
        if (a == 0 || Double.isInfinite(a)) {
            return a;
        }
        BigDecimal radicand = new BigDecimal(a);
        return rounded(Math.sqrt(a), d -> d.signum() < 0 ? -1 : d.multiply(d).compareTo(radicand), up);
    }

    /** The points of one sign (-1, 0, 1), mirrored to be positive; the end 0 may stand for a limit. */
    private Reference piece(int sign) {
        if (isEmpty()) {
            return EMPTY;
        }
        if (sign == 0) {
            return has(0) ? new Reference(0, 0) : EMPTY;
        }
        if (sign < 0) {
            return negated().piece(1);
        }
        return upper > 0 ? new Reference(Math.max(lower, 0), upper) : EMPTY;
    }

    Reference times(Reference y) {
        Reference all = EMPTY;
        for (int s = -1; s <= 1; s++) {
            for (int t = -1; t <= 1; t++) {
                Reference a = piece(s);
                Reference b = y.piece(t);
                if (!a.isEmpty() && !b.isEmpty()) {
                    all = all.hull(signed(s * t, a.lower, b.lower, a.upper, b.upper, false));
                }
            }
        }
        return all;
    }

    Reference by(Reference y) {
        Reference all = EMPTY;
        for (int s = -1; s <= 1; s++) {
            for (int t = -1; t <= 1; t += 2) {
                Reference a = piece(s);
                Reference b = y.piece(t);
                if (!a.isEmpty() && !b.isEmpty()) {
                    all = all.hull(signed(s * t, a.lower, b.upper, a.upper, b.lower, true));
                }
            }
        }
        return all;
    }

    /** What a op b (least) and c op d (greatest) span, mirrored for a negative sign. */
    private static Reference signed(int sign, double a, double b, double c, double d, boolean division) {
        if (sign == 0) {
            return new Reference(0, 0);
        }
        double least = division ? quotient(a, b, false) : product(a, b, false);
        double greatest = division ? quotient(c, d, true) : product(c, d, true);
        Reference size = new Reference(least, greatest);
        return sign < 0 ? size.negated() : size;
    }

    static Reference unary(int function, Reference x) {
        if (x.isEmpty()) {
            return EMPTY;
        }
        switch (function) {
            case 0: return x.negated();
            case 1: return x.piece(-1).hull(x.piece(0)).hull(x.piece(1));
            case 2: {
                Reference size = unary(1, x);
                return new Reference(product(size.lower, size.lower, false), product(size.upper, size.upper, true));
            }
            case 3: {
                Reference right = x.piece(0).hull(x.piece(1));
                return right.isEmpty() ? EMPTY : new Reference(root(right.lower, false), root(right.upper, true));
            }
            case 4: return new Reference(1, 1).by(x);
            case 5: return new Reference(Math.floor(x.lower), Math.floor(x.upper));
            case 6: return new Reference(Math.ceil(x.lower), Math.ceil(x.upper));
            case 7: return new Reference(whole(x.lower), whole(x.upper));
            case 8: return new Reference(Math.signum(x.lower), Math.signum(x.upper));
            default: throw new IllegalArgumentException();
        }
    }

    private static double whole(double d) {
        return d < 0 ? Math.ceil(d) : Math.floor(d);
    }

    static Reference binary(int function, Reference x, Reference y) {
        if (function == 7) {
            return x.hull(y);
        }
        if (x.isEmpty() || y.isEmpty()) {
            return EMPTY;
        }
        switch (function) {
            case 0: return new Reference(sum(x.lower, y.lower, false), sum(x.upper, y.upper, true));
            case 1: return binary(0, x, y.negated());
            case 2: return x.times(y);
            case 3: return x.by(y);
            case 4: return new Reference(Math.min(x.lower, y.lower), Math.min(x.upper, y.upper));
            case 5: return new Reference(Math.max(x.lower, y.lower), Math.max(x.upper, y.upper));
            case 6: {
                Reference common = new Reference(Math.max(x.lower, y.lower), Math.min(x.upper, y.upper));
                return common.isEmpty() ? EMPTY : common;
            }
            default: throw new IllegalArgumentException();
        }
    }

    static int unaryMark(int function, Reference x, int mark) {
        if (x.isEmpty() || (function == 3 && x.lower < 0) || (function == 4 && x.has(0))) {
            return Check.TRV;
        }
        Reference value = unary(function, x);
        boolean continuous = function < 5 || value.lower == value.upper;
        int local = !continuous ? Check.DEF : x.isBounded() && value.isBounded() ? Check.COM : Check.DAC;
        return Math.min(mark, local);
    }

    static int binaryMark(int function, Reference x, Reference y, int mark) {
        if (x.isEmpty() || y.isEmpty() || function > 5 || (function == 3 && y.has(0))) {
            return Check.TRV;
        }
        boolean bounded = x.isBounded() && y.isBounded() && binary(function, x, y).isBounded();
        return Math.min(mark, bounded ? Check.COM : Check.DAC);
    }

    static boolean relation(int which, Reference x, Reference y) {
        boolean one = x.isEmpty() || y.isEmpty();
        boolean both = x.isEmpty() && y.isEmpty();
        boolean upperIsBelow = below(x.upper, y.upper);
        switch (which) {
            case 0: return both || (!one && x.lower == y.lower && x.upper == y.upper);
            case 1: return x.isEmpty() || (!one && y.has(x.lower) && y.has(x.upper));
            case 2: return x.isEmpty() || (!one && below(y.lower, x.lower) && upperIsBelow);
            case 3: return both || (!one && !(x.lower > y.lower) && !(x.upper > y.upper));
            case 4: return one || x.upper <= y.lower;
            case 5: return both || (!one && below(x.lower, y.lower) && upperIsBelow);
            case 6: return one || x.upper < y.lower;
            case 7: return binary(6, x, y).isEmpty();
            default: throw new IllegalArgumentException();
        }
    }

    private static boolean below(double a, double b) {
        return a < b || (a == b && Double.isInfinite(a));
    }
}
