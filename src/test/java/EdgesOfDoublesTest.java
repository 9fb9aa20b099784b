/** Of the terms: what a double is, and a real number rounded down, up and to the nearest. */
public final class EdgesOfDoublesTest extends Edges {
    private static final long LEAST_NORMAL = 0x0010000000000000L;
    private static final double ULP_OF_MAX = 0x1p971;

    public static void main(String[] args) {
        highestBit();
        whereTheExponentBegins();
        whereTheExponentEnds();
        infiniteOrNoNumber();
        exactOnes();
        betweenTwoDoubles();
        aboveTheGreatest();
        belowTheLeast();
        betweenZeroAndTheLeast();
        betweenSubnormals();
        decimals();
        inexactByOneFarBit();
        nearest();
        nearestOfLongSums();
        nearestOfTwo();
        nearestAmongTheLeast();
        nearestAmongTheGreatest();
        Check.finish();
    }

    private static void bitsAre(String what, OutwardTape tape, int x, long lower, long upper) {
        Check.due(what + ": lower", tape.lower(x), lower);
        Check.due(what + ": upper", tape.upper(x), upper);
    }

    /** What function gives of the doubles with these bits, being one double again. */
    private static void exact(int function, long a, long b, long due) {
        two(function, com(of(a)), com(of(b)), com(of(due)));
    }

    /** What function gives of the doubles with these bits, lying between two doubles that are next to each other. */
    private static void between(int function, double a, double b, double due) {
        two(function, com(a), com(b), com(due, above(due)));
    }

    /** "the highest one, if set, says that it is negative" */
    private static void highestBit() {
        OutwardTape tape = new OutwardTape();
        tape.bounds(0x8000000000000001L, 0x0000000000000001L, Check.COM);
        tape.bounds(0xFFEFFFFFFFFFFFFFL, 0xBFF0000000000000L, Check.COM);
        bitsAre("around zero", tape, 0, 0x8000000000000001L, 1);
        bitsAre("negative", tape, 1, 0xFFEFFFFFFFFFFFFFL, 0xBFF0000000000000L);
        Check.due("the width of two least", tape.number(0, 0), 2);
        Check.due("the magnitude of a negative one", tape.number(1, 1), 0x7FEFFFFFFFFFFFFFL);
        Check.due("the mignitude of a negative one", tape.number(2, 1), 0x3FF0000000000000L);
    }

    /** "f * 2^-1074 for e = 0, (2^52 + f) * 2^(e - 1075) for e = 1 .." */
    private static void whereTheExponentBegins() {
        exact(0, 1, 1, 2);
        exact(0, LEAST_NORMAL - 2, 1, LEAST_NORMAL - 1);
        exact(0, LEAST_NORMAL - 1, 1, LEAST_NORMAL);
        exact(0, LEAST_NORMAL, 1, LEAST_NORMAL + 1);
        exact(0, LEAST_NORMAL - 1, LEAST_NORMAL - 1, 2 * LEAST_NORMAL - 2);
        exact(0, 2 * LEAST_NORMAL - 1, 1, 2 * LEAST_NORMAL);
        exact(0, 2 * LEAST_NORMAL, 2, 2 * LEAST_NORMAL + 1);
        exact(1, LEAST_NORMAL, 1, LEAST_NORMAL - 1);
        exact(1, LEAST_NORMAL + 1, LEAST_NORMAL, 1);
        exact(1, 2 * LEAST_NORMAL, LEAST_NORMAL, LEAST_NORMAL);
        exact(1, 2 * LEAST_NORMAL, 1, 2 * LEAST_NORMAL - 1);
        exact(2, LEAST_NORMAL, bits(0.5), LEAST_NORMAL / 2);
        exact(2, LEAST_NORMAL / 2, bits(2), LEAST_NORMAL);
        exact(3, LEAST_NORMAL, bits(0x1p52), 1);
        exact(3, 1, bits(0x1p-52), LEAST_NORMAL);
        between(0, of(2 * LEAST_NORMAL), MIN, of(2 * LEAST_NORMAL));
        between(2, of(LEAST_NORMAL + 1), 0.5, of(LEAST_NORMAL / 2));
        between(2, of(LEAST_NORMAL - 1), 0.5, of(LEAST_NORMAL / 2 - 1));
    }

    /** ".. 2046"; "The greatest finite one has e = 2046 and all bits of f." */
    private static void whereTheExponentEnds() {
        exact(0, 0x7FDFFFFFFFFFFFFFL, 0x7FDFFFFFFFFFFFFFL, 0x7FEFFFFFFFFFFFFFL);
        exact(2, 0x7FD0000000000000L, bits(2), 0x7FE0000000000000L);
        exact(3, 0x7FEFFFFFFFFFFFFFL, bits(2), 0x7FDFFFFFFFFFFFFFL);
        exact(1, 0x7FEFFFFFFFFFFFFFL, 0x7FEFFFFFFFFFFFFEL, bits(ULP_OF_MAX));
        OutwardTape tape = new OutwardTape();
        tape.bounds(0xFFEFFFFFFFFFFFFFL, 0x7FEFFFFFFFFFFFFFL, Check.COM);
        Check.due("the greatest is finite", tape.decoration(0), Check.COM);
        bitsAre("the greatest", tape, 0, 0xFFEFFFFFFFFFFFFFL, 0x7FEFFFFFFFFFFFFFL);
    }

    /** "for e = 2047 it is infinite if f = 0, and no number otherwise" */
    private static void infiniteOrNoNumber() {
        OutwardTape tape = new OutwardTape();
        dac(-INF, INF).due("infinite", tape, tape.bounds(0xFFF0000000000000L, 0x7FF0000000000000L, Check.DAC));
        dac(MAX, INF).due("infinite", tape, tape.bounds(0x7FEFFFFFFFFFFFFFL, 0x7FF0000000000000L, Check.DAC));
        dac(-INF, -MAX).due("infinite", tape, tape.bounds(0xFFF0000000000000L, 0xFFEFFFFFFFFFFFFFL, Check.DAC));
        for (long none : NO_NUMBERS) {
            ILL.due("no lower", tape, tape.bounds(none, Check.INF, Check.TRV));
            ILL.due("no upper", tape, tape.bounds(Check.MINUS_INF, none, Check.TRV));
            ILL.due("neither", tape, tape.bounds(none, none, Check.TRV));
            Check.due("clamp of no number", tape.clamp(0, none), Check.NAN);
        }
    }

    /** A double rounded either way is itself. */
    private static void exactOnes() {
        double[] all = {MIN, 2 * MIN, 0x1p-1022, 0.1, 0.5, below(1), 1, above(1), 3, 0x1p53, MAX / 2, below(MAX), MAX};
        for (double d : all) {
            two(0, com(d), com(0.0), com(d));
            two(2, com(d), com(1), com(d));
            two(2, com(-1), com(d), com(-d));
            two(3, com(d), com(1), com(d));
            two(3, com(d), com(-1), com(-d));
            two(3, com(d), com(d), com(1));
            two(1, com(d), com(d), com(0.0));
        }
    }

    /** "the greatest double not greater than it", "the least one not less than it" */
    private static void betweenTwoDoubles() {
        between(0, 1, MIN, 1);
        between(1, 1, MIN, below(1));
        between(0, -1, MIN, -1);
        between(1, -1, MIN, -above(1));
        between(0, 1, 0x1p-53, 1);
        between(0, 1, below(0x1p-53), 1);
        between(0, 1, above(0x1p-53), 1);
        between(0, above(1), 0x1p-53, above(1));
        two(0, com(1), com(0x1p-52), com(above(1)));
        between(0, 1, below(0x1p-52), 1);
        between(0, 1, above(0x1p-52), above(1));
        two(1, com(1), com(0x1p-53), com(below(1)));
        between(1, 1, below(0x1p-53), below(1));
        between(1, 1, above(0x1p-53), below(below(1)));
        between(0, 0x1p53, 1, 0x1p53);
        between(1, 0x1p54, 1, below(0x1p54));
        between(2, above(1), above(1), above(above(1)));
        between(2, below(1), below(1), below(below(1)));
        between(3, 1, 3, 1.0 / 3);
        between(3, 1, 10, below(0.1));
        between(3, -1, 3, -above(1.0 / 3));
        between(3, 1, above(1), below(below(1)));
        between(3, 1, below(1), 1);
        one(3, com(2), com(below(Math.sqrt(2)), Math.sqrt(2)));
        one(3, com(above(1)), com(1, above(1)));
        one(3, com(below(1)), com(below(1), 1));
        one(3, com(above(4)), com(2, above(2)));
        one(3, com(below(4)), com(below(2), 2));
    }

    /** "plus infinity if there is no finite one", rounded up; rounded down it is the greatest. */
    private static void aboveTheGreatest() {
        two(0, com(below(MAX)), com(ULP_OF_MAX), com(MAX));
        two(0, com(below(MAX)), com(below(ULP_OF_MAX)), com(below(MAX), MAX));
        two(0, com(below(MAX)), com(above(ULP_OF_MAX)), dac(MAX, INF));
        two(1, com(MAX), com(MIN), com(below(MAX), MAX));
        for (double more : new double[] {MIN, 1, below(0x1p970), 0x1p970, above(0x1p970), ULP_OF_MAX, MAX}) {
            two(0, com(MAX), com(more), dac(MAX, INF));
            two(1, com(MAX), com(-more), dac(MAX, INF));
        }
        two(2, com(0x1p512), com(0x1p512), dac(MAX, INF));
        two(2, com(0x1p512), com(below(0x1p512)), com(MAX));
        two(2, com(MAX), com(above(1)), dac(MAX, INF));
        two(2, com(-MAX), com(-2), dac(MAX, INF));
        two(2, com(MAX), com(MAX), dac(MAX, INF));
        two(3, com(MAX), com(below(1)), dac(MAX, INF));
        two(3, com(MAX), com(above(1)), com(below(below(MAX)), below(MAX)));
        two(3, com(MAX), com(MIN), dac(MAX, INF));
        two(3, com(0x1p-50), com(MIN), dac(MAX, INF));
        two(3, com(below(0x1p-50)), com(MIN), com(MAX));
        one(4, com(0x1p-1024), dac(MAX, INF));
        one(4, com(above(0x1p-1024)), com(0x1.fffffffffffffp1023 - 7 * ULP_OF_MAX, MAX - 6 * ULP_OF_MAX));
        one(2, com(0x1p512), dac(MAX, INF));
        one(2, com(below(0x1p512)), com(below(MAX), MAX));
    }

    /** "minus infinity if there is no finite one", rounded down; rounded up it is the negative of the greatest. */
    private static void belowTheLeast() {
        two(1, com(-below(MAX)), com(ULP_OF_MAX), com(-MAX));
        two(1, com(-below(MAX)), com(below(ULP_OF_MAX)), com(-MAX, -below(MAX)));
        two(1, com(-below(MAX)), com(above(ULP_OF_MAX)), dac(-INF, -MAX));
        two(0, com(-MAX), com(MIN), com(-MAX, -below(MAX)));
        for (double more : new double[] {MIN, 1, below(0x1p970), 0x1p970, above(0x1p970), ULP_OF_MAX, MAX}) {
            two(1, com(-MAX), com(more), dac(-INF, -MAX));
            two(0, com(-MAX), com(-more), dac(-INF, -MAX));
        }
        two(2, com(-0x1p512), com(0x1p512), dac(-INF, -MAX));
        two(2, com(-0x1p512), com(below(0x1p512)), com(-MAX));
        two(2, com(-MAX), com(above(1)), dac(-INF, -MAX));
        two(2, com(MAX), com(-2), dac(-INF, -MAX));
        two(3, com(-MAX), com(below(1)), dac(-INF, -MAX));
        two(3, com(MAX), com(-MIN), dac(-INF, -MAX));
        one(4, com(-0x1p-1024), dac(-INF, -MAX));
        one(4, com(-above(0x1p-1024)), com(6 * ULP_OF_MAX - MAX, 7 * ULP_OF_MAX - MAX));
    }

    private static void betweenZeroAndTheLeast() {
        two(2, com(MIN), com(0.5), com(0, MIN));
        two(2, com(MIN), com(below(0.5)), com(0, MIN));
        two(2, com(MIN), com(above(0.5)), com(0, MIN));
        two(2, com(MIN), com(below(1)), com(0, MIN));
        two(2, com(MIN), com(above(1)), com(MIN, 2 * MIN));
        two(2, com(MIN), com(MIN), com(0, MIN));
        two(2, com(-MIN), com(0.5), com(-MIN, 0));
        two(2, com(MIN), com(-MIN), com(-MIN, 0));
        two(2, com(-MIN), com(-MIN), com(0, MIN));
        two(3, com(MIN), com(2), com(0, MIN));
        two(3, com(MIN), com(above(1)), com(0, MIN));
        two(3, com(MIN), com(below(1)), com(MIN, 2 * MIN));
        two(3, com(MIN), com(MAX), com(0, MIN));
        two(3, com(-MIN), com(MAX), com(-MIN, 0));
        one(2, com(MIN), com(0, MIN));
        one(2, com(-MIN), com(0, MIN));
        one(2, com(0x1p-537), com(MIN));
        one(2, com(below(0x1p-537)), com(0, MIN));
        one(2, com(above(0x1p-537)), com(MIN, 2 * MIN));
        one(3, com(MIN), com(0x1p-537));
    }

    private static void betweenSubnormals() {
        between(2, 3 * MIN, 0.5, MIN);
        between(2, 5 * MIN, 0.5, 2 * MIN);
        between(3, 7 * MIN, 4, MIN);
        between(3, -7 * MIN, 4, -2 * MIN);
        between(3, 1, MAX, 0x1p-1024);
        between(3, -1, MAX, -above(0x1p-1024));
        one(4, com(MAX), com(0x1p-1024, above(0x1p-1024)));
        one(4, com(0x1p1023), com(0x1p-1023));
        one(4, com(0x1p-1023), com(0x1p1023));
        one(4, com(0x1p-1022), com(0x1p1022));
    }

    /** The bounds of a literal: "x rounded down and y rounded up". */
    private static void decimals() {
        literal("[9007199254740992]", com(0x1p53));
        literal("[9007199254740993]", com(0x1p53, 0x1p53 + 2));
        literal("[9007199254740994]", com(0x1p53 + 2));
        literal("[-9007199254740993]", com(-0x1p53 - 2, -0x1p53));
        literal("[9007199254740991.5]", com(0x1p53 - 1, 0x1p53));
        literal("[9007199254740991.9]", com(0x1p53 - 1, 0x1p53));
        literal("[9007199254740992.1]", com(0x1p53, 0x1p53 + 2));
        literal("[0.1]", com(below(0.1), 0.1));
        literal("[-0.1]", com(-0.1, -below(0.1)));
        literal("[0.1,0.1]", com(below(0.1), 0.1));
        literal("[0.3,0.7]", com(0.3, above(0.7)));
        literal("[1e22]", com(1e22));
        literal("[1e23]", com(1e23, above(1e23)));
        literal("[0.5]", com(0.5));
        literal("[0.500000000000000001]", com(0.5, above(0.5)));
        literal("[0.499999999999999999]", com(below(0.5), 0.5));
        literal("[1.00000000000000001]", com(1, above(1)));
        literal("[0.99999999999999999]", com(below(1), 1));
    }

    /** A single bit behind a row of zeros, however far, makes a value no double. */
    private static void inexactByOneFarBit() {
        one(2, com(1 + 0x1p-26), com(1 + 0x1p-25 + 0x1p-52));
        for (int k = 27; k <= 52; k++) {
            double d = 1 + Math.scalb(1.0, -k);
            double due = 1 + Math.scalb(1.0, 1 - k);
            between(2, d, d, due);
            between(2, -d, d, -above(due));
            one(2, com(d), com(due, above(due)));
            two(3, com(due), com(d), com(below(d), d));
            one(3, com(due), com(below(d), d));
        }
        for (int k = 54; k <= 1074; k++) {
            double little = Math.scalb(1.0, -k);
            between(0, 1, little, 1);
            between(0, -1, little, -1);
            between(1, 2, little, below(2));
        }
    }

    private static void middle(double lower, double upper, double due) {
        OutwardTape tape = new OutwardTape();
        Check.put(tape, lower, upper, Check.TRV);
        Check.put(tape, -upper, -lower, Check.TRV);
        String what = "middle of [" + lower + ", " + upper + "]";
        Check.due(what, tape.number(3, 0), bits(due + 0.0));
        Check.due(what + ", mirrored", tape.number(3, 1), bits(0.0 - due));
    }

    /** "the finite one that differs least from it": less than half a step, and more than half a step, away. */
    private static void nearest() {
        for (int k = 0; k < 4; k++) {
            double half = 0.5 + k * 0x1p-53;
            middle(0, 1 + k * 0x1p-52, half);
            middle(MIN, 1 + k * 0x1p-52, half);
            middle(below(0x1p-53), 1 + k * 0x1p-52, half);
            middle(above(0x1p-53), 1 + k * 0x1p-52, above(half));
            middle(below(0x1p-52), 1 + k * 0x1p-52, above(half));
            middle(0x1p-52, 1 + k * 0x1p-52, above(half));
            middle(-below(0x1p-53), 1 + k * 0x1p-52, k == 0 ? below(half) : half);
            middle(-above(0x1p-53), 1 + k * 0x1p-52, below(half));
            middle(-MIN, 1 + k * 0x1p-52, half);
        }
    }

    /** The same where the sum of the bounds has one binary digit more than they have. */
    private static void nearestOfLongSums() {
        middle(below(0x1p-51), below(2), 1);
        middle(0x1p-51, below(2), 1);
        middle(above(0x1p-51), below(2), above(1));
        middle(below(0x1p-50), below(2), above(1));
        middle(0x1p-50, below(2), above(above(1)));
        middle(above(0x1p-50), below(2), above(above(1)));
        middle(1, 2, 1.5);
        middle(above(1), 2, 1.5);
        middle(above(1), above(2), 1.5 + 0x1p-51);
        middle(below(2), 2, 2);
    }

    /** "of two the one with an even f" */
    private static void nearestOfTwo() {
        middle(0x1p-53, 1, 0.5);
        middle(0x1p-53, 1 + 0x1p-52, 0.5 + 0x1p-52);
        middle(0x1p-53, 1 + 0x1p-51, 0.5 + 0x1p-52);
        middle(0x1p-53, 1 + 3 * 0x1p-52, 0.5 + 4 * 0x1p-53);
        middle(1, above(1), 1);
        middle(above(1), above(above(1)), above(above(1)));
        middle(below(1), 1, 1);
        middle(below(below(1)), below(1), below(below(1)));
        middle(below(2), 2, 2);
        middle(0x1p53, 0x1p53 + 2, 0x1p53);
        middle(0x1p53 + 2, 0x1p53 + 4, 0x1p53 + 4);
    }

    private static void nearestAmongTheLeast() {
        middle(0, MIN, 0);
        middle(-MIN, MIN, 0);
        middle(-MIN, 2 * MIN, 0);
        middle(-MIN, 3 * MIN, MIN);
        middle(0, 2 * MIN, MIN);
        middle(0, 3 * MIN, 2 * MIN);
        middle(MIN, 2 * MIN, 2 * MIN);
        middle(2 * MIN, 3 * MIN, 2 * MIN);
        middle(3 * MIN, 4 * MIN, 4 * MIN);
        middle(of(LEAST_NORMAL - 1), of(LEAST_NORMAL), of(LEAST_NORMAL));
        middle(of(LEAST_NORMAL), of(LEAST_NORMAL + 1), of(LEAST_NORMAL));
        middle(of(LEAST_NORMAL + 1), of(LEAST_NORMAL + 2), of(LEAST_NORMAL + 2));
        middle(0, of(LEAST_NORMAL), of(LEAST_NORMAL / 2));
        middle(0, of(LEAST_NORMAL + 1), of(LEAST_NORMAL / 2));
        middle(0, of(LEAST_NORMAL + 3), of(LEAST_NORMAL / 2 + 2));
        middle(0, of(2 * LEAST_NORMAL + 1), of(LEAST_NORMAL + 1));
    }

    private static void nearestAmongTheGreatest() {
        middle(MAX, MAX, MAX);
        middle(below(MAX), MAX, below(MAX));
        middle(below(below(MAX)), below(MAX), below(MAX));
        middle(below(below(MAX)), MAX, below(MAX));
        middle(-MAX, MAX, 0);
        middle(0, MAX, MAX / 2);
        middle(-below(MAX), MAX, 0x1p970);
        middle(MIN, MAX, MAX / 2);
        middle(0x1p1023, MAX, 0x1.8p1023);
    }
}
