/** Promises 15 and 16: the numbers of an interval, and clamp. */
public final class NumberTest {
    private static final double INF = Double.POSITIVE_INFINITY;
    private static final double MAX = Double.MAX_VALUE;
    private static final double MIN = Double.MIN_VALUE;

    public static void main(String[] args) {
        numbers(1, 3, 2, 3, 1, 2);
        numbers(-3, 1, 4, 3, 0, -1);
        numbers(-3, -1, 2, 3, 1, -2);
        numbers(0, 0, 0, 0, 0, 0);
        numbers(-1, 1, 2, 1, 0, 0);
        numbers(-INF, INF, INF, INF, 0, 0);
        numbers(1, INF, INF, INF, 1, MAX);
        numbers(-5, INF, INF, INF, 0, MAX);
        numbers(-INF, -1, INF, INF, 1, -MAX);
        numbers(-INF, 7, INF, INF, 0, -MAX);
        numbers(-MAX, MAX, INF, MAX, 0, 0);
        numbers(MAX, MAX, 0, MAX, MAX, MAX);
        numbers(Math.nextDown(MAX), MAX, 0x1p971, MAX, Math.nextDown(MAX), Math.nextDown(MAX));
        numbers(0, MIN, MIN, MIN, 0, 0);
        numbers(-MIN, 0, MIN, MIN, 0, 0);
        numbers(MIN, 2 * MIN, MIN, 2 * MIN, MIN, 2 * MIN);
        numbers(2 * MIN, 3 * MIN, MIN, 3 * MIN, 2 * MIN, 2 * MIN);
        numbers(-2 * MIN, -MIN, MIN, 2 * MIN, MIN, -2 * MIN);
        numbers(1, Math.nextUp(1.0), 0x1p-52, Math.nextUp(1.0), 1, 1);
        numbers(-MIN, 1, Math.nextUp(1.0), 1, 0, 0.5);
        missing();
        clamps();
        Check.finish();
    }

    private static void numbers(double lower, double upper, double... due) {
        OutwardTape tape = new OutwardTape();
        Check.put(tape, lower, upper, Check.TRV);
        for (int which = 0; which < 4; which++) {
            String what = "number " + which + " of [" + lower + ", " + upper + "]";
            Check.due(what, tape.number(which, 0), Check.upperBits(due[which]));
        }
    }

    private static void missing() {
        OutwardTape tape = new OutwardTape();
        Check.put(tape, 1, 2, Check.COM);
        int empty = Check.putEmpty(tape);
        int ill = Check.putIll(tape);
        for (int which = -1; which < 6; which++) {
            Check.due("number of the empty one", tape.number(which, empty), Check.NAN);
            Check.due("number of ILL", tape.number(which, ill), Check.NAN);
            Check.due("number of no cell", tape.number(which, 3), Check.NAN);
            Check.due("number of no cell", tape.number(which, -1), Check.NAN);
        }
        for (int which : new int[] {-1, 4, 5, Integer.MIN_VALUE, Integer.MAX_VALUE}) {
            Check.due("number " + which, tape.number(which, 0), Check.NAN);
        }
    }

    private static void clamps() {
        OutwardTape tape = new OutwardTape();
        int small = Check.put(tape, -1, 2, Check.COM);
        int up = Check.put(tape, 3, INF, Check.DAC);
        int down = Check.put(tape, -INF, -3, Check.DAC);
        int right = Check.put(tape, 0, 1, Check.COM);
        int left = Check.put(tape, -1, 0, Check.COM);
        int empty = Check.putEmpty(tape);
        int ill = Check.putIll(tape);
        clamp(tape, small, 1.5, 1.5);
        clamp(tape, small, -0.0, 0);
        clamp(tape, small, 0.0, 0);
        clamp(tape, small, -1, -1);
        clamp(tape, small, Math.nextDown(-1.0), -1);
        clamp(tape, small, Math.nextUp(2.0), 2);
        clamp(tape, small, INF, 2);
        clamp(tape, small, -INF, -1);
        clamp(tape, up, INF, INF);
        clamp(tape, up, -INF, 3);
        clamp(tape, up, MAX, MAX);
        clamp(tape, down, -INF, -INF);
        clamp(tape, down, INF, -3);
        clamp(tape, right, -5, 0);
        clamp(tape, right, -0.0, 0);
        clamp(tape, left, 5, 0);
        long[] noNumbers = {Check.NAN, 0x7FF0000000000001L, 0xFFF0000000000001L, -1L, Long.MAX_VALUE};
        for (long bits : noNumbers) {
            Check.due("clamp of no number", tape.clamp(small, bits), Check.NAN);
            Check.due("clamp of no number to the empty one", tape.clamp(empty, bits), Check.NAN);
        }
        Check.due("clamp to the empty one", tape.clamp(empty, 0), Check.NAN);
        Check.due("clamp to ILL", tape.clamp(ill, 0), Check.NAN);
        Check.due("clamp to no cell", tape.clamp(7, 0), Check.NAN);
        Check.due("clamp to no cell", tape.clamp(-1, 0), Check.NAN);
    }

    private static void clamp(OutwardTape tape, int x, double d, double due) {
        Check.due("clamp of " + d + " to cell " + x, tape.clamp(x, Double.doubleToLongBits(d)), Check.upperBits(due));
    }
}
