/** Promises 7 and 8: values that can be told by heart, at the edges that the document names. */
public final class FunctionsTest {
    private static final double INF = Double.POSITIVE_INFINITY;
    private static final double MAX = Double.MAX_VALUE;
    private static final double MIN = Double.MIN_VALUE;

    public static void main(String[] args) {
        simple();
        roots();
        reciprocals();
        steps();
        sums();
        products();
        quotients();
        sets();
        Check.finish();
    }

    private static double[] pair(double lower, double upper) {
        return new double[] {lower, upper};
    }

    private static int put(OutwardTape tape, double[] x) {
        boolean bounded = Math.abs(x[0]) <= MAX && Math.abs(x[1]) <= MAX;
        return Check.put(tape, x[0], x[1], bounded ? Check.COM : Check.DAC);
    }

    private static void one(int function, double[] x, double lower, double upper, int mark) {
        OutwardTape tape = new OutwardTape();
        int cell = tape.unary(function, put(tape, x));
        Check.interval("function " + function + " of [" + x[0] + ", " + x[1] + "]", tape, cell, lower, upper, mark);
    }

    private static void oneEmpty(int function, double[] x) {
        one(function, x, INF, -INF, Check.TRV);
    }

    private static void two(int function, double[] x, double[] y, double[] due, int mark) {
        OutwardTape tape = new OutwardTape();
        int cell = tape.binary(function, put(tape, x), put(tape, y));
        String what = "function " + function + " of [" + x[0] + ", " + x[1] + "] and [" + y[0] + ", " + y[1] + "]";
        Check.interval(what, tape, cell, due[0], due[1], mark);
    }

    private static void simple() {
        one(0, pair(-2, 3), -3, 2, Check.COM);
        one(0, pair(0, 0), 0, 0, Check.COM);
        one(0, pair(1, INF), -INF, -1, Check.DAC);
        one(1, pair(-2, 3), 0, 3, Check.COM);
        one(1, pair(-5, -3), 3, 5, Check.COM);
        one(1, pair(-INF, -3), 3, INF, Check.DAC);
        one(2, pair(-2, 3), 0, 9, Check.COM);
        one(2, pair(-3, -2), 4, 9, Check.COM);
        one(2, pair(0x1p511, 0x1p512), 0x1p1022, INF, Check.DAC);
        one(2, pair(MAX, MAX), MAX, INF, Check.DAC);
        one(2, pair(-MIN, MIN), 0, MIN, Check.COM);
        one(2, pair(MIN, MIN), 0, MIN, Check.COM);
        one(2, pair(0.1, 0.1), 0.01, Math.nextUp(0.01), Check.COM);
    }

    private static void roots() {
        one(3, pair(4, 9), 2, 3, Check.COM);
        one(3, pair(0, 0), 0, 0, Check.COM);
        one(3, pair(-4, 9), 0, 3, Check.TRV);
        one(3, pair(-MIN, 0), 0, 0, Check.TRV);
        one(3, pair(2, INF), Math.nextDown(Math.sqrt(2)), INF, Check.DAC);
        one(3, pair(2, 2), Math.nextDown(Math.sqrt(2)), Math.sqrt(2), Check.COM);
        one(3, pair(MIN, 0x1p-1072), 0x1p-537, 0x1p-536, Check.COM);
        one(3, pair(-INF, INF), 0, INF, Check.TRV);
        oneEmpty(3, pair(-4, -1));
        oneEmpty(3, pair(-INF, -MIN));
    }

    private static void reciprocals() {
        one(4, pair(2, 4), 0.25, 0.5, Check.COM);
        one(4, pair(-4, -2), -0.5, -0.25, Check.COM);
        one(4, pair(3, 3), 1.0 / 3, Math.nextUp(1.0 / 3), Check.COM);
        one(4, pair(0, 2), 0.5, INF, Check.TRV);
        one(4, pair(-2, 0), -INF, -0.5, Check.TRV);
        one(4, pair(-2, 2), -INF, INF, Check.TRV);
        one(4, pair(2, INF), 0, 0.5, Check.DAC);
        one(4, pair(-INF, -2), -0.5, 0, Check.DAC);
        one(4, pair(0, INF), 0, INF, Check.TRV);
        one(4, pair(-INF, 0), -INF, 0, Check.TRV);
        one(4, pair(-INF, INF), -INF, INF, Check.TRV);
        one(4, pair(MIN, 1), 1, INF, Check.DAC);
        one(4, pair(-1, -MIN), -INF, -1, Check.DAC);
        one(4, pair(MIN, MIN), MAX, INF, Check.DAC);
        oneEmpty(4, pair(0, 0));
    }

    private static void steps() {
        one(5, pair(-1.5, 2.5), -2, 2, Check.DEF);
        one(6, pair(-1.5, 2.5), -1, 3, Check.DEF);
        one(7, pair(-1.5, 2.5), -1, 2, Check.DEF);
        one(5, pair(1, 1.5), 1, 1, Check.COM);
        one(5, pair(1, 2), 1, 2, Check.DEF);
        one(6, pair(1.5, 2), 2, 2, Check.COM);
        one(6, pair(1, 1.5), 1, 2, Check.DEF);
        one(7, pair(-0.5, 0.5), 0, 0, Check.COM);
        one(7, pair(-1, 0.5), -1, 0, Check.DEF);
        one(5, pair(-MIN, -MIN), -1, -1, Check.COM);
        one(6, pair(MIN, MIN), 1, 1, Check.COM);
        one(6, pair(-0.5, -MIN), 0, 0, Check.COM);
        one(5, pair(-MAX, MAX), -MAX, MAX, Check.DEF);
        one(5, pair(MAX, MAX), MAX, MAX, Check.COM);
        one(5, pair(-INF, 2.5), -INF, 2, Check.DEF);
        one(6, pair(2.5, INF), 3, INF, Check.DEF);
        one(7, pair(MAX, INF), MAX, INF, Check.DEF);
        one(5, pair(-0x1p52 + 0.5, 0x1p52 - 0.5), -0x1p52, 0x1p52 - 1, Check.DEF);
        one(8, pair(-3, -2), -1, -1, Check.COM);
        one(8, pair(-3, 0), -1, 0, Check.DEF);
        one(8, pair(0, 0), 0, 0, Check.COM);
        one(8, pair(0, 2), 0, 1, Check.DEF);
        one(8, pair(-MIN, MIN), -1, 1, Check.DEF);
        one(8, pair(2, INF), 1, 1, Check.DAC);
        one(8, pair(-INF, INF), -1, 1, Check.DEF);
    }

    private static void sums() {
        two(0, pair(1, 2), pair(10, 20), pair(11, 22), Check.COM);
        two(1, pair(1, 2), pair(10, 20), pair(-19, -8), Check.COM);
        two(1, pair(1, 1), pair(1, 1), pair(0, 0), Check.COM);
        two(0, pair(1, 1), pair(MIN, MIN), pair(1, Math.nextUp(1.0)), Check.COM);
        two(1, pair(1, 1), pair(MIN, MIN), pair(Math.nextDown(1.0), 1), Check.COM);
        two(0, pair(MAX, MAX), pair(MIN, MIN), pair(MAX, INF), Check.DAC);
        two(1, pair(-MAX, -MAX), pair(MIN, MIN), pair(-INF, -MAX), Check.DAC);
        two(0, pair(MAX, MAX), pair(-MAX, -MAX), pair(0, 0), Check.COM);
        two(0, pair(-INF, 1), pair(2, INF), pair(-INF, INF), Check.DAC);
        two(1, pair(-INF, 1), pair(2, INF), pair(-INF, -1), Check.DAC);
        two(0, pair(0x1p53, 0x1p53), pair(1, 1), pair(0x1p53, 0x1p53 + 2), Check.COM);
        two(0, pair(MIN, MIN), pair(MIN, MIN), pair(2 * MIN, 2 * MIN), Check.COM);
    }

    private static void products() {
        two(2, pair(-2, 3), pair(-5, 7), pair(-15, 21), Check.COM);
        two(2, pair(-3, -2), pair(-7, -5), pair(10, 21), Check.COM);
        two(2, pair(0, 0), pair(-INF, INF), pair(0, 0), Check.DAC);
        two(2, pair(0, 1), pair(2, INF), pair(0, INF), Check.DAC);
        two(2, pair(-1, 0), pair(2, INF), pair(-INF, 0), Check.DAC);
        two(2, pair(MIN, MIN), pair(0.5, 0.5), pair(0, MIN), Check.COM);
        two(2, pair(-MIN, -MIN), pair(0.5, 0.5), pair(-MIN, 0), Check.COM);
        two(2, pair(MAX, MAX), pair(2, 2), pair(MAX, INF), Check.DAC);
        two(2, pair(-MAX, -MAX), pair(2, 2), pair(-INF, -MAX), Check.DAC);
        two(2, pair(MIN, MIN), pair(0x1p1023, 0x1p1023), pair(0x1p-51, 0x1p-51), Check.COM);
    }

    private static void quotients() {
        two(3, pair(6, 12), pair(2, 3), pair(2, 6), Check.COM);
        two(3, pair(6, 12), pair(-3, -2), pair(-6, -2), Check.COM);
        two(3, pair(-6, 12), pair(2, 3), pair(-3, 6), Check.COM);
        two(3, pair(1, 2), pair(-1, 1), pair(-INF, INF), Check.TRV);
        two(3, pair(0, 0), pair(-1, 1), pair(0, 0), Check.TRV);
        two(3, pair(0, 0), pair(0, 1), pair(0, 0), Check.TRV);
        two(3, pair(0, 0), pair(-INF, INF), pair(0, 0), Check.TRV);
        two(3, pair(0, 0), pair(0, 0), pair(INF, -INF), Check.TRV);
        two(3, pair(1, 2), pair(0, 0), pair(INF, -INF), Check.TRV);
        two(3, pair(1, 2), pair(0, 4), pair(0.25, INF), Check.TRV);
        two(3, pair(-2, -1), pair(0, 4), pair(-INF, -0.25), Check.TRV);
        two(3, pair(1, 2), pair(-4, 0), pair(-INF, -0.25), Check.TRV);
        two(3, pair(-2, -1), pair(-4, 0), pair(0.25, INF), Check.TRV);
        two(3, pair(-1, 2), pair(0, 4), pair(-INF, INF), Check.TRV);
        two(3, pair(0, 2), pair(0, 4), pair(0, INF), Check.TRV);
        two(3, pair(1, 2), pair(0, INF), pair(0, INF), Check.TRV);
        two(3, pair(1, INF), pair(1, INF), pair(0, INF), Check.DAC);
        two(3, pair(-INF, INF), pair(1, 2), pair(-INF, INF), Check.DAC);
        two(3, pair(-INF, -1), pair(2, INF), pair(-INF, 0), Check.DAC);
        two(3, pair(MIN, MIN), pair(2, 2), pair(0, MIN), Check.COM);
        two(3, pair(MAX, MAX), pair(0.5, 0.5), pair(MAX, INF), Check.DAC);
        two(3, pair(1, 1), pair(10, 10), pair(Math.nextDown(0.1), 0.1), Check.COM);
    }

    private static void sets() {
        two(4, pair(1, 5), pair(2, 3), pair(1, 3), Check.COM);
        two(5, pair(1, 5), pair(2, 3), pair(2, 5), Check.COM);
        two(4, pair(-INF, 5), pair(2, INF), pair(-INF, 5), Check.DAC);
        two(5, pair(-INF, 5), pair(2, INF), pair(2, INF), Check.DAC);
        two(4, pair(1, INF), pair(2, 3), pair(1, 3), Check.DAC);
        two(6, pair(1, 5), pair(2, 7), pair(2, 5), Check.TRV);
        two(6, pair(1, 2), pair(2, 7), pair(2, 2), Check.TRV);
        two(6, pair(1, 2), pair(3, 4), pair(INF, -INF), Check.TRV);
        two(6, pair(-1, 0), pair(0, 4), pair(0, 0), Check.TRV);
        two(7, pair(1, 2), pair(3, 4), pair(1, 4), Check.TRV);
        two(7, pair(-INF, 2), pair(3, INF), pair(-INF, INF), Check.TRV);
    }
}
