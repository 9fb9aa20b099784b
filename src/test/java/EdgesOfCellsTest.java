/** Promises 6 and 9 to 13, and of the terms: what an interval, a cell and a decoration are. */
public final class EdgesOfCellsTest extends Edges {
    private static final int FULL = 40;

    public static void main(String[] args) {
        lowerNotAboveUpper();
        whichBoundsMayBeInfinite();
        bounded();
        entire();
        zerosGiven();
        zerosRead();
        zerosOfOneOperand();
        zerosOfTwoOperands();
        numberedFromZero();
        filled();
        comByBoundedAlone();
        emptyHasTrv();
        decorationsToldBack();
        emptyCells();
        illCells();
        cellsThatAreNotThere();
        askingChangesNothing();
        Check.finish();
    }

    private static void asked(double lower, double upper, Told... dueByMark) {
        for (int mark = Check.TRV; mark <= Check.COM; mark++) {
            OutwardTape tape = new OutwardTape();
            String what = "bounds " + lower + ", " + upper + ", " + mark;
            Check.due(what + ": number", Check.put(tape, lower, upper, mark), 0);
            dueByMark[mark - 1].due(what, tape, 0);
            Check.due(what + ": filled", tape.filled(), 1);
        }
    }

    private static void isInterval(double lower, double upper) {
        asked(lower, upper, trv(lower, upper), def(lower, upper), dac(lower, upper), com(lower, upper));
    }

    private static void isUnbounded(double lower, double upper) {
        asked(lower, upper, trv(lower, upper), def(lower, upper), dac(lower, upper), ILL);
    }

    private static void isNone(double lower, double upper) {
        asked(lower, upper, ILL, ILL, ILL, ILL);
    }

    /** "lower <= upper"; promise 6: "ILL when that is no interval" */
    private static void lowerNotAboveUpper() {
        double[] points = {-MAX, -2.5, -1, -0x1p-1022, -MIN, 0, MIN, 0x1p-1022, 1, 2.5, MAX};
        for (double d : points) {
            isInterval(d, d);
            if (d < MAX) {
                isInterval(d, above(d));
                isNone(above(d), d);
            }
        }
        isInterval(-1, 1);
        isNone(1, -1);
        isNone(MAX, -MAX);
        isInterval(-MAX, MAX);
    }

    /** "lower finite or minus infinity, upper finite or plus infinity" */
    private static void whichBoundsMayBeInfinite() {
        isNone(INF, INF);
        isNone(-INF, -INF);
        isNone(INF, -INF);
        isNone(INF, 1);
        isNone(1, -INF);
        isNone(INF, MAX);
        isNone(-MAX, -INF);
        isNone(0, -INF);
        isNone(INF, 0);
    }

    /** "It is BOUNDED if it is not empty and both bounds are finite"; promise 6: ILL "with COM if it is not bounded" */
    private static void bounded() {
        isInterval(-MAX, MAX);
        isUnbounded(-MAX, INF);
        isUnbounded(-INF, MAX);
        isUnbounded(MAX, INF);
        isUnbounded(-INF, -MAX);
        isUnbounded(0, INF);
        isUnbounded(-INF, 0);
        isInterval(MAX, MAX);
        isInterval(-MAX, -MAX);
    }

    /** "ENTIRE has both bounds infinite." */
    private static void entire() {
        isUnbounded(-INF, INF);
        literal("[entire]", dac(-INF, INF));
        OutwardTape tape = new OutwardTape();
        Check.put(tape, -INF, INF, Check.TRV);
        Check.putText(tape, "[,]");
        Check.put(tape, -INF, MAX, Check.TRV);
        Check.due("entire is the same set", tape.relation(0, 0, 1), true);
        Check.due("one bound finite is another one", tape.relation(0, 0, 2), false);
    }

    /** Promise 6: "zeros of either sign"; "A bound zero is told as -0 for the lower, as 0 for the upper one." */
    private static void zerosGiven() {
        long[] zeros = {0, Check.MINUS_ZERO};
        for (long zero : zeros) {
            for (long other : zeros) {
                bitsAre("bounds 0, 0", zero, other, Check.MINUS_ZERO, 0);
            }
            bitsAre("bounds 0, 1", zero, bits(1), Check.MINUS_ZERO, bits(1));
            bitsAre("bounds -1, 0", bits(-1), zero, bits(-1), 0);
            bitsAre("bounds 0, MIN", zero, 1, Check.MINUS_ZERO, 1);
            bitsAre("bounds -MIN, 0", bits(-MIN), zero, bits(-MIN), 0);
            OutwardTape tape = new OutwardTape();
            ILL.due("bounds MIN, 0", tape, tape.bounds(1, zero, Check.COM));
            ILL.due("bounds 0, -MIN", tape, tape.bounds(zero, bits(-MIN), Check.COM));
        }
    }

    private static void bitsAre(String what, long lower, long upper, long dueLower, long dueUpper) {
        OutwardTape tape = new OutwardTape();
        tape.bounds(lower, upper, Check.COM);
        Check.intervalBits(what, tape, 0, dueLower, dueUpper, Check.COM);
    }

    private static void zerosRead() {
        for (String zero : new String[] {"0", "-0", "+0", ".0", "-0.", "0e5", "-0e-5", "000"}) {
            literal("[" + zero + "]", com(0.0));
            literal("[" + zero + ",1]", com(0.0, 1));
            literal("[-1," + zero + "]", com(-1, 0.0));
            literal("[" + zero + ",]", dac(0.0, INF));
            literal("[," + zero + "]", dac(-INF, 0.0));
            literal("[" + zero + ",-0]", com(0.0));
        }
    }

    /** Zeros that functions give are told so, too: Told looks at the bits. */
    private static void zerosOfOneOperand() {
        for (int function = 0; function <= 8; function++) {
            if (function != 4) {
                one(function, com(0.0), com(0.0));
            }
        }
        one(0, com(0, 1), com(-1, 0));
        one(0, com(-1, 0), com(0, 1));
        one(1, com(-1, 0), com(0, 1));
        one(1, com(-2, 1), com(0, 2));
        one(2, com(-1, 0), com(0, 1));
        one(3, com(0, 1), com(0, 1));
        one(4, dac(1, INF), dac(0, 1));
        one(4, dac(-INF, -1), dac(-1, 0));
        one(5, com(0.25, 0.5), com(0.0));
        one(6, com(-0.5, -0.25), com(0.0));
        one(7, com(-0.5, -0.25), com(0.0));
        one(7, com(0.25, 0.5), com(0.0));
        one(8, com(0, 1), def(0, 1));
        one(8, com(-1, 0), def(-1, 0));
    }

    private static void zerosOfTwoOperands() {
        two(0, com(-1), com(1), com(0.0));
        two(0, com(-1, 2), com(1, 3), com(0, 5));
        two(0, com(-5, -1), com(-1, 1), com(-6, 0));
        two(1, com(1), com(1), com(0.0));
        two(1, com(-1), com(-1), com(0.0));
        two(2, com(0.0), com(-1), com(0.0));
        two(2, com(-1), com(0.0), com(0.0));
        two(2, com(-1, 0), com(1, 2), com(-2, 0));
        two(2, com(0, 1), com(1, 2), com(0, 2));
        two(3, com(0.0), com(-1), com(0.0));
        two(3, com(-1, 0), com(-1), com(0, 1));
        two(3, com(0, 1), com(-1), com(-1, 0));
        two(4, com(0, 1), com(0, 2), com(0, 1));
        two(4, com(-1, 0), com(-1, 2), com(-1, 0));
        two(5, com(0, 1), com(-1, 1), com(0, 1));
        two(5, com(-1, 0), com(-2, 0), com(-1, 0));
        two(6, com(-1, 0), com(0, 1), trv(0, 0));
        two(7, com(0, 1), com(0, 2), trv(0, 2));
        two(7, com(-1, 0), com(-2, 0), trv(-2, 0));
    }

    /** "A CELL of the tape, numbered 0, 1, .. (at most 40)" */
    private static void numberedFromZero() {
        OutwardTape tape = new OutwardTape();
        Check.type(tape, "[3]");
        for (int x = 0; x < FULL; x++) {
            int kind = x % 4;
            int got = kind == 0 ? tape.literal() : kind == 1 ? Check.put(tape, x, x, Check.COM)
                : kind == 2 ? tape.unary(0, x - 1) : tape.binary(1, x - 1, x - 2);
            Check.due("number of a new cell", got, x);
        }
        for (int x = 0; x < FULL; x += 4) {
            com(3).due("cell " + x, tape, x);
            com(x + 1).due("cell " + (x + 1), tape, x + 1);
            com(-x - 1).due("cell " + (x + 2), tape, x + 2);
            com(-2 * x - 2).due("cell " + (x + 3), tape, x + 3);
        }
    }

    /** Promise 9: "How many cells there are." */
    private static void filled() {
        OutwardTape tape = new OutwardTape();
        for (int x = 0; x < FULL; x++) {
            Check.due("filled", tape.filled(), x);
            (x % 3 == 0 ? ILL : x % 3 == 1 ? EMPTY : com(x)).putOn(tape);
        }
        Check.due("filled", tape.filled(), FULL);
        Check.throwing("one more", IllegalStateException.class, tape::literal);
        Check.due("filled", tape.filled(), FULL);
        tape.clear();
        Check.due("filled", tape.filled(), 0);
    }

    /** "COM is had by bounded intervals alone": of COM operands, a value that is not bounded has DAC. */
    private static void comByBoundedAlone() {
        two(0, com(MAX), com(MAX), dac(MAX, INF));
        two(1, com(-MAX), com(MAX), dac(-INF, -MAX));
        two(2, com(MAX), com(2), dac(MAX, INF));
        two(3, com(MAX), com(0.5), dac(MAX, INF));
        one(2, com(MAX), dac(MAX, INF));
        one(4, com(MIN), dac(MAX, INF));
        literal("[1,]", dac(1, INF));
        literal("[1,]_com", ILL);
        isUnbounded(1, INF);
    }

    /** "and an empty one has TRV" */
    private static void emptyHasTrv() {
        literal("[]", EMPTY);
        literal("[empty]", EMPTY);
        literal("[]_trv", EMPTY);
        one(3, com(-2, -1), EMPTY);
        one(4, com(0.0), EMPTY);
        two(3, com(1), com(0.0), EMPTY);
        two(6, com(1), com(2), EMPTY);
        two(7, EMPTY, EMPTY, EMPTY);
        for (int function = 0; function <= 8; function++) {
            one(function, EMPTY, EMPTY);
        }
    }

    /** Promise 10: "The decoration of cell x, 0 .. 4." */
    private static void decorationsToldBack() {
        OutwardTape tape = new OutwardTape();
        ILL.putOn(tape);
        trv(1, 2).putOn(tape);
        def(1, 2).putOn(tape);
        dac(1, 2).putOn(tape);
        com(1, 2).putOn(tape);
        for (int x = 0; x <= 4; x++) {
            Check.due("decoration", tape.decoration(x), x);
        }
        EMPTY.putOn(tape);
        Check.due("decoration of the empty one", tape.decoration(5), Check.TRV);
    }

    /** Promises 11 to 13: an empty cell is empty, its lower plus and its upper minus infinity. */
    private static void emptyCells() {
        OutwardTape tape = new OutwardTape();
        EMPTY.putOn(tape);
        trv(-INF, INF).putOn(tape);
        trv(0, 0).putOn(tape);
        Check.due("isEmpty", tape.isEmpty(0), true);
        Check.due("lower", tape.lower(0), 0x7FF0000000000000L);
        Check.due("upper", tape.upper(0), 0xFFF0000000000000L);
        Check.due("isEmpty of entire", tape.isEmpty(1), false);
        Check.due("lower of entire", tape.lower(1), 0xFFF0000000000000L);
        Check.due("upper of entire", tape.upper(1), 0x7FF0000000000000L);
        Check.due("isEmpty of a point", tape.isEmpty(2), false);
    }

    /** Promises 11 to 13: "false when it is ILL", "0x7FF8000000000000 when it is ILL" */
    private static void illCells() {
        OutwardTape tape = new OutwardTape();
        Check.putText(tape, "[nai]");
        Check.putText(tape, "no literal");
        Check.put(tape, 2, 1, Check.TRV);
        tape.bounds(Check.NAN, 0, Check.TRV);
        Check.put(tape, 1, INF, Check.COM);
        tape.unary(1, 0);
        tape.binary(6, 0, 1);
        for (int x = 0; x < tape.filled(); x++) {
            Check.due("decoration of ILL", tape.decoration(x), Check.ILL);
            Check.due("isEmpty of ILL", tape.isEmpty(x), false);
            Check.due("lower of ILL", tape.lower(x), 0x7FF8000000000000L);
            Check.due("upper of ILL", tape.upper(x), 0x7FF8000000000000L);
        }
    }

    /** Promises 11 to 13: ".. or there is none": one below the first and one above the last cell, and far away. */
    private static void cellsThatAreNotThere() {
        for (int cells : new int[] {0, 1, 2, 39, 40}) {
            OutwardTape tape = new OutwardTape();
            for (int x = 0; x < cells; x++) {
                EMPTY.putOn(tape);
            }
            notThere(tape, cells);
            notThere(tape, cells + 1);
            for (int x : NEVER_A_CELL) {
                notThere(tape, x);
            }
            if (cells > 0) {
                EMPTY.due("the first cell", tape, 0);
                EMPTY.due("the last cell", tape, cells - 1);
            }
        }
    }

    private static void notThere(OutwardTape tape, int x) {
        Check.due("isEmpty of " + x, tape.isEmpty(x), false);
        Check.due("lower of " + x, tape.lower(x), 0x7FF8000000000000L);
        Check.due("upper of " + x, tape.upper(x), 0x7FF8000000000000L);
    }

    private static void askingChangesNothing() {
        OutwardTape tape = new OutwardTape();
        Told[] cells = {com(-1, 2), EMPTY, ILL, dac(-INF, 0), com(0.0)};
        for (Told cell : cells) {
            cell.putOn(tape);
        }
        String before = seen(tape);
        for (int x = -1; x <= cells.length; x++) {
            for (int which = -1; which <= 8; which++) {
                tape.relation(which, x, 0);
                tape.relation(which, 1, x);
                tape.number(which, x);
            }
            tape.clamp(x, bits(5));
            tape.clamp(x, Check.NAN);
        }
        same("asking", seen(tape), before);
        Check.due("the next cell", tape.literal(), cells.length);
    }
}
