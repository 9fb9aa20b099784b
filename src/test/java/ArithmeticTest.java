import java.math.BigDecimal;

/** Promises 7 and 8, and 14 to 16: many intervals against the reference. */
public final class ArithmeticTest {
    private static final int ROUNDS = 15_000;

    public static void main(String[] args) {
        Samples samples = new Samples(20261115);
        for (int i = 0; i < ROUNDS; i++) {
            Reference x = samples.interval();
            Reference y = samples.below(12) == 0 ? x : samples.interval();
            OutwardTape tape = new OutwardTape();
            int xMark = samples.mark(x);
            int yMark = samples.mark(y);
            Samples.put(tape, x, xMark);
            Samples.put(tape, y, yMark);
            ones(tape, x, xMark);
            twos(tape, x, y, Math.min(xMark, yMark));
            relations(tape, x, y);
            if (!x.isEmpty()) {
                numbers(tape, x);
                clamps(tape, x, samples);
            }
        }
        Check.finish();
    }

    private static void ones(OutwardTape tape, Reference x, int mark) {
        for (int function = 0; function <= 8; function++) {
            Reference value = Reference.unary(function, x);
            String what = "function " + function + " of " + told(x);
            int cell = tape.unary(function, 0);
            Check.interval(what, tape, cell, value.lower, value.upper, Reference.unaryMark(function, x, mark));
        }
    }

    private static void twos(OutwardTape tape, Reference x, Reference y, int mark) {
        for (int function = 0; function <= 7; function++) {
            Reference value = Reference.binary(function, x, y);
            String what = "function " + function + " of " + told(x) + " and " + told(y);
            int cell = tape.binary(function, 0, 1);
            Check.interval(what, tape, cell, value.lower, value.upper, Reference.binaryMark(function, x, y, mark));
        }
    }

    private static void relations(OutwardTape tape, Reference x, Reference y) {
        for (int which = 0; which < 8; which++) {
            String what = "relation " + which + " of " + told(x) + " and " + told(y);
            Check.due(what, tape.relation(which, 0, 1), Reference.relation(which, x, y));
        }
    }

    private static void numbers(OutwardTape tape, Reference x) {
        double width = x.isBounded() ? Reference.sum(x.upper, -x.lower, true) : Double.POSITIVE_INFINITY;
        Reference sizes = Reference.unary(1, x);
        double[] due = {width, sizes.upper, sizes.lower, middle(x)};
        for (int which = 0; which < due.length; which++) {
            Check.due("number " + which + " of " + told(x), tape.number(which, 0), Check.upperBits(due[which]));
        }
    }

    private static double middle(Reference x) {
        if (x.isBounded()) {
            BigDecimal sum = new BigDecimal(x.lower).add(new BigDecimal(x.upper));
            return nearest(sum.divide(BigDecimal.valueOf(2)));
        }
        return Double.isInfinite(x.lower) ? Double.isInfinite(x.upper) ? 0 : -Double.MAX_VALUE : Double.MAX_VALUE;
    }

    private static double nearest(BigDecimal value) {
        double down = Reference.decimal(value, false);
        double up = Reference.decimal(value, true);
        int order = value.subtract(new BigDecimal(down)).compareTo(new BigDecimal(up).subtract(value));
        boolean downIsEven = (Double.doubleToLongBits(down) & 1) == 0;
        return order < 0 || (order == 0 && downIsEven) ? down : up;
    }

    private static void clamps(OutwardTape tape, Reference x, Samples samples) {
        double inf = Double.POSITIVE_INFINITY;
        double[] points = {samples.finite(), x.lower, x.upper, -inf, inf, -0.0};
        for (double d : points) {
            double due = d < x.lower ? x.lower : d > x.upper ? x.upper : d;
            long got = tape.clamp(0, Double.doubleToLongBits(d));
            Check.due("clamp of " + d + " to " + told(x), got, Check.upperBits(due));
        }
    }

    private static String told(Reference x) {
        return "[" + x.lower + ", " + x.upper + "]";
    }
}
