/** Promise 14: which relations hold, at the edges that tell one from another. */
public final class RelationTest {
    private static final double INF = Double.POSITIVE_INFINITY;
    private static final int EQUAL = 1;
    private static final int SUBSET = 2;
    private static final int INTERIOR = 4;
    private static final int LESS = 8;
    private static final int PRECEDES = 16;
    private static final int STRICTLY_LESS = 32;
    private static final int STRICTLY_PRECEDES = 64;
    private static final int DISJOINT = 128;

    public static void main(String[] args) {
        double[] none = {INF, -INF};
        double[] entire = {-INF, INF};
        holding(none, none, 255);
        holding(none, pair(1, 2), SUBSET | INTERIOR | PRECEDES | STRICTLY_PRECEDES | DISJOINT);
        holding(pair(1, 2), none, PRECEDES | STRICTLY_PRECEDES | DISJOINT);
        holding(none, entire, SUBSET | INTERIOR | PRECEDES | STRICTLY_PRECEDES | DISJOINT);
        holding(entire, entire, EQUAL | SUBSET | INTERIOR | LESS | STRICTLY_LESS);
        holding(pair(1, 2), pair(1, 2), EQUAL | SUBSET | LESS);
        holding(pair(1, 1), pair(1, 1), EQUAL | SUBSET | LESS | PRECEDES);
        holding(pair(0.0, -0.0), pair(-0.0, 0.0), EQUAL | SUBSET | LESS | PRECEDES);
        holding(pair(1, 2), pair(0, 3), SUBSET | INTERIOR);
        holding(pair(1, 2), pair(1, 3), SUBSET | LESS);
        holding(pair(1, 2), pair(0, 2), SUBSET);
        holding(pair(0, 3), pair(1, 2), 0);
        holding(pair(1, 2), entire, SUBSET | INTERIOR);
        holding(entire, pair(1, 2), 0);
        holding(pair(1, INF), pair(0, INF), SUBSET | INTERIOR);
        holding(pair(0, INF), pair(1, INF), LESS | STRICTLY_LESS);
        holding(pair(-INF, 1), pair(-INF, 2), SUBSET | INTERIOR | LESS | STRICTLY_LESS);
        holding(pair(-INF, 1), pair(-INF, 1), EQUAL | SUBSET | LESS);
        holding(pair(1, INF), pair(1, INF), EQUAL | SUBSET | LESS);
        holding(pair(1, 2), pair(2, 3), LESS | PRECEDES | STRICTLY_LESS);
        holding(pair(2, 3), pair(1, 2), 0);
        holding(pair(1, 2), pair(3, 4), LESS | PRECEDES | STRICTLY_LESS | STRICTLY_PRECEDES | DISJOINT);
        holding(pair(3, 4), pair(1, 2), DISJOINT);
        holding(pair(1, 3), pair(2, 4), LESS | STRICTLY_LESS);
        holding(pair(-INF, 0), pair(0, INF), LESS | PRECEDES | STRICTLY_LESS);
        holding(pair(-INF, 0), pair(Double.MIN_VALUE, INF),
            LESS | PRECEDES | STRICTLY_LESS | STRICTLY_PRECEDES | DISJOINT);
        Check.finish();
    }

    private static double[] pair(double lower, double upper) {
        return new double[] {lower, upper};
    }

    private static void holding(double[] x, double[] y, int due) {
        OutwardTape tape = new OutwardTape();
        Samples.put(tape, new Reference(x[0], x[1]), Check.TRV);
        Samples.put(tape, new Reference(y[0], y[1]), Check.TRV);
        String told = " of [" + x[0] + ", " + x[1] + "] and [" + y[0] + ", " + y[1] + "]";
        for (int which = 0; which < 8; which++) {
            Check.due("relation " + which + told, tape.relation(which, 0, 1), (due >> which & 1) != 0);
        }
        for (int which : new int[] {-1, 8, 9, Integer.MIN_VALUE, Integer.MAX_VALUE}) {
            Check.due("relation " + which + told, tape.relation(which, 0, 1), false);
        }
    }
}
