/** Promises 15 and 16: the numbers of an interval and clamp, at every edge that they name. */
public final class EdgesOfNumbersTest extends Edges {
    private static final int WIDTH = 0;
    private static final int MAGNITUDE = 1;
    private static final int MIGNITUDE = 2;
    private static final int MIDDLE = 3;

    public static void main(String[] args) {
        width();
        widthRoundedUp();
        magnitude();
        mignitude();
        middle();
        middleWithoutEnd();
        zeros();
        noNumberOfEmptyOrIll();
        noSuchNumber();
        noSuchCell();
        clampInside();
        clampOutside();
        clampAtZero();
        clampInfinite();
        clampOfNoNumber();
        clampToNone();
        Check.finish();
    }

    private static long asked(int which, double lower, double upper) {
        OutwardTape tape = new OutwardTape();
        Check.put(tape, lower, upper, Check.TRV);
        return tape.number(which, 0);
    }

    private static void number(int which, double lower, double upper, double due) {
        String what = "number " + which + " of [" + lower + ", " + upper + "]";
        Check.due(what, asked(which, lower, upper), bits(due));
    }

    /** "upper less lower .. (plus infinity if it is not bounded)" */
    private static void width() {
        number(WIDTH, 1, 3, 2);
        number(WIDTH, -1, 3, 4);
        number(WIDTH, 3, 3, 0);
        number(WIDTH, 0, MIN, MIN);
        number(WIDTH, -MIN, MIN, 2 * MIN);
        number(WIDTH, 1, above(1), 0x1p-52);
        number(WIDTH, below(1), 1, 0x1p-53);
        number(WIDTH, 0, MAX, MAX);
        number(WIDTH, -MAX, 0, MAX);
        number(WIDTH, below(MAX), MAX, 0x1p971);
        number(WIDTH, -INF, INF, INF);
        number(WIDTH, MAX, INF, INF);
        number(WIDTH, -INF, -MAX, INF);
        number(WIDTH, -INF, 0, INF);
    }

    /** "rounded up" */
    private static void widthRoundedUp() {
        number(WIDTH, -MIN, 1, above(1));
        number(WIDTH, MIN, 1, 1);
        number(WIDTH, -1, MIN, above(1));
        number(WIDTH, -1, -MIN, 1);
        number(WIDTH, -0x1p-53, 1, above(1));
        number(WIDTH, -0x1p-52, 1, above(1));
        number(WIDTH, -above(0x1p-52), 1, above(above(1)));
        number(WIDTH, 0x1p-53, 1, below(1));
        number(WIDTH, below(0x1p-53), 1, 1);
        number(WIDTH, -MIN, MAX, INF);
        number(WIDTH, -MAX, MIN, INF);
        number(WIDTH, -MAX, MAX, INF);
        number(WIDTH, -0x1p971, below(MAX), MAX);
        number(WIDTH, -above(0x1p971), below(MAX), INF);
        number(WIDTH, -below(0x1p971), below(MAX), MAX);
        number(WIDTH, MIN, MAX, MAX);
    }

    /** "the greatest absolute value of its bounds" */
    private static void magnitude() {
        number(MAGNITUDE, 1, 3, 3);
        number(MAGNITUDE, -3, 1, 3);
        number(MAGNITUDE, -3, -1, 3);
        number(MAGNITUDE, -3, 3, 3);
        number(MAGNITUDE, -3, above(3), above(3));
        number(MAGNITUDE, -above(3), 3, above(3));
        number(MAGNITUDE, -MIN, 0, MIN);
        number(MAGNITUDE, 0, 0, 0);
        number(MAGNITUDE, -MAX, MAX, MAX);
        number(MAGNITUDE, -INF, 1, INF);
        number(MAGNITUDE, 1, INF, INF);
        number(MAGNITUDE, -INF, INF, INF);
    }

    /** "the least absolute value of a point of it" */
    private static void mignitude() {
        number(MIGNITUDE, 1, 3, 1);
        number(MIGNITUDE, -3, -1, 1);
        number(MIGNITUDE, MIN, 3, MIN);
        number(MIGNITUDE, 0, 3, 0);
        number(MIGNITUDE, -MIN, 3, 0);
        number(MIGNITUDE, -3, MIN, 0);
        number(MIGNITUDE, -3, 0, 0);
        number(MIGNITUDE, -3, -MIN, MIN);
        number(MIGNITUDE, -3, 3, 0);
        number(MIGNITUDE, MAX, INF, MAX);
        number(MIGNITUDE, -INF, -MAX, MAX);
        number(MIGNITUDE, -INF, INF, 0);
        number(MIGNITUDE, -INF, 3, 0);
        number(MIGNITUDE, -3, INF, 0);
    }

    /** "half the sum of its bounds rounded to the nearest" (EdgesOfDoublesTest has the ties) */
    private static void middle() {
        number(MIDDLE, 1, 3, 2);
        number(MIDDLE, -3, 1, -1);
        number(MIDDLE, -3, 3, 0);
        number(MIDDLE, 3, 3, 3);
        number(MIDDLE, -MAX, MAX, 0);
        number(MIDDLE, MAX, MAX, MAX);
        number(MIDDLE, -MAX, -MAX, -MAX);
        number(MIDDLE, below(MAX), MAX, below(MAX));
        number(MIDDLE, -MAX, -below(MAX), -below(MAX));
        number(MIDDLE, MIN, MIN, MIN);
        number(MIDDLE, -MIN, -MIN, -MIN);
        number(MIDDLE, -MIN, 1, 0.5);
    }

    /** "0 for entire, otherwise the greatest finite double if the upper one, the negative of that if the lower .." */
    private static void middleWithoutEnd() {
        number(MIDDLE, -INF, INF, 0);
        number(MIDDLE, -MAX, INF, MAX);
        number(MIDDLE, 0, INF, MAX);
        number(MIDDLE, MAX, INF, MAX);
        number(MIDDLE, -INF, -MAX, -MAX);
        number(MIDDLE, -INF, 0, -MAX);
        number(MIDDLE, -INF, MAX, -MAX);
    }

    /** "A zero is told as 0." */
    private static void zeros() {
        for (int which = WIDTH; which <= MIDDLE; which++) {
            number(which, 0.0, 0.0, 0.0);
            number(which, -0.0, -0.0, 0.0);
            number(which, 0.0, -0.0, 0.0);
        }
        number(WIDTH, -1, -1, 0.0);
        number(MIGNITUDE, -1, 0, 0.0);
        number(MIGNITUDE, 0, 1, 0.0);
        number(MIDDLE, -1, 1, 0.0);
        number(MIDDLE, -MIN, 0, 0.0);
        number(MIDDLE, 0, MIN, 0.0);
        number(MIDDLE, -INF, INF, 0.0);
    }

    /** "0x7FF8000000000000 when it is empty or ILL" */
    private static void noNumberOfEmptyOrIll() {
        OutwardTape tape = new OutwardTape();
        EMPTY.putOn(tape);
        ILL.putOn(tape);
        for (int which = -1; which <= 4; which++) {
            Check.due("number of empty", tape.number(which, 0), 0x7FF8000000000000L);
            Check.due("number of ILL", tape.number(which, 1), 0x7FF8000000000000L);
        }
    }

    /** "or there is no such number" */
    private static void noSuchNumber() {
        int[] none = {-1, 4, 5, 8, 256, 65536, -4, Integer.MAX_VALUE, Integer.MIN_VALUE};
        for (int which : none) {
            Check.due("number " + which, asked(which, 1, 3), 0x7FF8000000000000L);
            Check.due("number " + which, asked(which, -INF, INF), 0x7FF8000000000000L);
        }
    }

    /** "or cell" */
    private static void noSuchCell() {
        for (int cells : new int[] {0, 1, 2, 39, 40}) {
            OutwardTape tape = tapeOf(cells);
            for (int which = WIDTH; which <= MIDDLE; which++) {
                Check.due("number of the next cell", tape.number(which, cells), 0x7FF8000000000000L);
                for (int x : NEVER_A_CELL) {
                    Check.due("number of cell " + x, tape.number(which, x), 0x7FF8000000000000L);
                }
            }
            if (cells > 0) {
                Check.due("number of the last cell", tape.number(MIGNITUDE, cells - 1), bits(cells - 1));
                Check.due("number of the first cell", tape.number(MAGNITUDE, 0), bits(0.5));
            }
        }
    }

    private static void clamp(double lower, double upper, double d, double due) {
        OutwardTape tape = new OutwardTape();
        Check.put(tape, lower, upper, Check.TRV);
        Check.due("clamp of " + d + " to [" + lower + ", " + upper + "]", tape.clamp(0, bits(d)), bits(due));
    }

    /** "d itself if lower <= d <= upper" */
    private static void clampInside() {
        clamp(1, 3, 1, 1);
        clamp(1, 3, above(1), above(1));
        clamp(1, 3, 2, 2);
        clamp(1, 3, below(3), below(3));
        clamp(1, 3, 3, 3);
        clamp(-3, -1, -2, -2);
        clamp(-3, -1, -3, -3);
        clamp(-3, -1, -1, -1);
        clamp(-MIN, MIN, MIN, MIN);
        clamp(-MIN, MIN, -MIN, -MIN);
        clamp(-MAX, MAX, MAX, MAX);
        clamp(-MAX, MAX, -MAX, -MAX);
        clamp(-INF, INF, MAX, MAX);
        clamp(-INF, INF, -MIN, -MIN);
        clamp(2, 2, 2, 2);
    }

    /** "otherwise the bound that is nearer to it" */
    private static void clampOutside() {
        clamp(1, 3, below(1), 1);
        clamp(1, 3, 0, 1);
        clamp(1, 3, -MAX, 1);
        clamp(1, 3, above(3), 3);
        clamp(1, 3, MAX, 3);
        clamp(-3, -1, below(-3), -3);
        clamp(-3, -1, above(-1), -1);
        clamp(-3, -1, MIN, -1);
        clamp(2, 2, below(2), 2);
        clamp(2, 2, above(2), 2);
        clamp(MAX, INF, below(MAX), MAX);
        clamp(-INF, -MAX, -below(MAX), -MAX);
        clamp(-INF, 1, above(1), 1);
        clamp(1, INF, below(1), 1);
    }

    /** "a zero is told as 0", be it d or a bound */
    private static void clampAtZero() {
        for (double zero : new double[] {0.0, -0.0}) {
            clamp(-1, 1, zero, 0.0);
            clamp(0, 1, zero, 0.0);
            clamp(-1, 0, zero, 0.0);
            clamp(zero, zero, zero, 0.0);
            clamp(-INF, INF, zero, 0.0);
            clamp(MIN, 1, zero, MIN);
            clamp(-1, -MIN, zero, -MIN);
            clamp(zero, 1, -MIN, 0.0);
            clamp(zero, 1, -INF, 0.0);
            clamp(-1, zero, MIN, 0.0);
            clamp(-1, zero, INF, 0.0);
            clamp(zero, zero, 1, 0.0);
            clamp(zero, zero, -1, 0.0);
        }
    }

    /** "a double d (by its bits, perhaps infinite)" */
    private static void clampInfinite() {
        clamp(1, 3, INF, 3);
        clamp(1, 3, -INF, 1);
        clamp(-MAX, MAX, INF, MAX);
        clamp(-MAX, MAX, -INF, -MAX);
        clamp(1, INF, INF, INF);
        clamp(1, INF, -INF, 1);
        clamp(-INF, 1, -INF, -INF);
        clamp(-INF, 1, INF, 1);
        clamp(-INF, INF, INF, INF);
        clamp(-INF, INF, -INF, -INF);
    }

    /** "0x7FF8000000000000 when .. d is no number" */
    private static void clampOfNoNumber() {
        OutwardTape tape = new OutwardTape();
        com(1, 3).putOn(tape);
        dac(-INF, INF).putOn(tape);
        EMPTY.putOn(tape);
        ILL.putOn(tape);
        for (long none : NO_NUMBERS) {
            for (int x = -1; x <= 4; x++) {
                Check.due("clamp of no number to cell " + x, tape.clamp(x, none), 0x7FF8000000000000L);
            }
        }
    }

    /** "0x7FF8000000000000 when x is empty or ILL or there is none" */
    private static void clampToNone() {
        double[] points = {0, 1, -1, MAX, INF, -INF};
        for (int cells : new int[] {0, 1, 39, 40}) {
            OutwardTape tape = tapeOf(cells);
            for (double d : points) {
                Check.due("clamp to the next cell", tape.clamp(cells, bits(d)), 0x7FF8000000000000L);
                for (int x : NEVER_A_CELL) {
                    Check.due("clamp to cell " + x, tape.clamp(x, bits(d)), 0x7FF8000000000000L);
                }
            }
        }
        OutwardTape tape = new OutwardTape();
        EMPTY.putOn(tape);
        ILL.putOn(tape);
        for (double d : points) {
            Check.due("clamp to empty", tape.clamp(0, bits(d)), 0x7FF8000000000000L);
            Check.due("clamp to ILL", tape.clamp(1, bits(d)), 0x7FF8000000000000L);
        }
    }
}
