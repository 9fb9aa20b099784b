/** Promise 7, and of the terms: THE VALUE of a function and its decoration, and ONE OPERAND. */
public final class EdgesOfOneOperandTest extends Edges {
    private static final int MINUS = 0;
    private static final int ABSOLUTE = 1;
    private static final int SQUARE = 2;
    private static final int ROOT = 3;
    private static final int RECIPROCAL = 4;
    private static final int FLOOR = 5;
    private static final int CEILING = 6;
    private static final int TOWARDS_ZERO = 7;
    private static final int SIGN = 8;

    public static void main(String[] args) {
        illOperands();
        emptyOperands();
        operandsDecorations();
        minus();
        absolute();
        square();
        root();
        rootOfSquares();
        reciprocal();
        floor();
        ceiling();
        towardsZero();
        stepsFarOut();
        stepsWithoutEnd();
        sign();
        everySmallPair();
        Check.finish();
    }

    /** "A function of an operand that is ILL is ILL." */
    private static void illOperands() {
        for (int function = 0; function <= 8; function++) {
            one(function, ILL, ILL);
        }
    }

    /** "it is empty if there are none"; "if an operand is empty, TRV" */
    private static void emptyOperands() {
        for (int function = 0; function <= 8; function++) {
            one(function, EMPTY, EMPTY);
        }
    }

    /** "Its decoration is the least of the operands' and the LOCAL one" */
    private static void operandsDecorations() {
        for (int mark = Check.TRV; mark <= Check.COM; mark++) {
            least(MINUS, 1, 2, Check.COM, mark);
            least(ABSOLUTE, -1, 2, Check.COM, mark);
            least(SQUARE, -1, 2, Check.COM, mark);
            least(SQUARE, MAX, MAX, Check.DAC, mark);
            least(ROOT, 0, 2, Check.COM, mark);
            least(ROOT, -1, 2, Check.TRV, mark);
            least(RECIPROCAL, 1, 2, Check.COM, mark);
            least(RECIPROCAL, MIN, 2, Check.DAC, mark);
            least(RECIPROCAL, 0, 2, Check.TRV, mark);
            for (int function = FLOOR; function <= TOWARDS_ZERO; function++) {
                least(function, 1.25, 1.75, Check.COM, mark);
                least(function, -1.25, 1.75, Check.DEF, mark);
            }
            least(SIGN, 1, 2, Check.COM, mark);
            least(SIGN, -1, 2, Check.DEF, mark);
        }
    }

    private static void least(int function, double lower, double upper, int local, int mark) {
        OutwardTape tape = new OutwardTape();
        Check.put(tape, lower, upper, mark);
        String what = "function " + function + " of [" + lower + ", " + upper + "]_" + mark;
        Check.due(what, tape.decoration(tape.unary(function, 0)), Math.min(local, mark));
    }

    private static void minus() {
        one(MINUS, com(1, 2), com(-2, -1));
        one(MINUS, com(-MAX, MIN), com(-MIN, MAX));
        one(MINUS, dac(-INF, MAX), dac(-MAX, INF));
        one(MINUS, dac(-MAX, INF), dac(-INF, MAX));
        one(MINUS, dac(-INF, INF), dac(-INF, INF));
        one(MINUS, def(-INF, 0), def(0, INF));
    }

    private static void absolute() {
        one(ABSOLUTE, com(MIN, 2), com(MIN, 2));
        one(ABSOLUTE, com(0, 2), com(0, 2));
        one(ABSOLUTE, com(-MIN, 2), com(0, 2));
        one(ABSOLUTE, com(-2, MIN), com(0, 2));
        one(ABSOLUTE, com(-2, 0), com(0, 2));
        one(ABSOLUTE, com(-2, -MIN), com(MIN, 2));
        one(ABSOLUTE, com(-3, above(3)), com(0, above(3)));
        one(ABSOLUTE, com(-above(3), 3), com(0, above(3)));
        one(ABSOLUTE, com(-MAX, MAX), com(0, MAX));
        one(ABSOLUTE, dac(-INF, INF), dac(0, INF));
        one(ABSOLUTE, dac(-INF, -MAX), dac(MAX, INF));
        one(ABSOLUTE, dac(-INF, 1), dac(0, INF));
        one(ABSOLUTE, dac(-1, INF), dac(0, INF));
        one(ABSOLUTE, dac(1, INF), dac(1, INF));
    }

    private static void square() {
        one(SQUARE, com(2, 3), com(4, 9));
        one(SQUARE, com(-3, -2), com(4, 9));
        one(SQUARE, com(-2, 3), com(0, 9));
        one(SQUARE, com(-3, 2), com(0, 9));
        one(SQUARE, com(0, 3), com(0, 9));
        one(SQUARE, com(-3, 0), com(0, 9));
        one(SQUARE, com(-MIN, 3), com(0, 9));
        one(SQUARE, com(MIN, 3), com(0, 9));
        one(SQUARE, com(0x1p-537, 3), com(MIN, 9));
        one(SQUARE, com(2, below(0x1p512)), com(4, MAX));
        one(SQUARE, com(2, 0x1p512), dac(4, INF));
        one(SQUARE, com(-0x1p512, 2), dac(0, INF));
        one(SQUARE, dac(-INF, 2), dac(0, INF));
        one(SQUARE, dac(-INF, -2), dac(4, INF));
        one(SQUARE, dac(2, INF), dac(4, INF));
        one(SQUARE, dac(-INF, INF), dac(0, INF));
        one(SQUARE, dac(MAX, INF), dac(MAX, INF));
        one(SQUARE, com(above(1)), com(above(above(1)), above(above(above(1)))));
    }

    /** "the square root (defined from 0 on)" */
    private static void root() {
        one(ROOT, com(0, 4), com(0, 2));
        one(ROOT, com(MIN, 4), com(0x1p-537, 2));
        one(ROOT, com(-MIN, 4), trv(0, 2));
        one(ROOT, com(-MAX, 4), trv(0, 2));
        one(ROOT, com(0.0), com(0.0));
        one(ROOT, com(-MIN, 0), trv(0, 0));
        one(ROOT, com(-1, MIN), trv(0, 0x1p-537));
        one(ROOT, com(-1, -MIN), EMPTY);
        one(ROOT, com(-MIN), EMPTY);
        one(ROOT, com(-MAX), EMPTY);
        one(ROOT, dac(-INF, -MIN), EMPTY);
        one(ROOT, dac(-INF, 0), trv(0, 0));
        one(ROOT, dac(-INF, 4), trv(0, 2));
        one(ROOT, dac(-INF, INF), trv(0, INF));
        one(ROOT, dac(-MIN, INF), trv(0, INF));
        one(ROOT, dac(0, INF), dac(0, INF));
        one(ROOT, dac(4, INF), dac(2, INF));
        one(ROOT, com(MAX), com(below(0x1p512), 0x1p512));
        one(ROOT, def(-1, 4), trv(0, 2));
        one(ROOT, trv(1, 4), trv(1, 2));
    }

    /** At a square the root is exact, and next to it one of the two bounds is not. */
    private static void rootOfSquares() {
        double[] roots = {1, 2, 3, 1.5, 94906265, 0x1p26 + 1, 0x1p-500, 3 * 0x1p500, 0x1p511};
        for (double r : roots) {
            double square = r * r;
            one(ROOT, com(square), com(r));
            one(ROOT, com(above(square)), com(r, above(r)));
            one(ROOT, com(below(square)), com(below(r), r));
        }
        one(ROOT, com(4 * MIN), com(0x1p-536));
        one(ROOT, com(9 * MIN), com(3 * 0x1p-537));
        one(ROOT, com(0x1p-1022), com(0x1p-511));
        one(ROOT, com(0x1p-1024), com(0x1p-512));
    }

    /** "one divided by x (defined but at 0)" */
    private static void reciprocal() {
        one(RECIPROCAL, com(0.0), EMPTY);
        one(RECIPROCAL, com(MIN), dac(MAX, INF));
        one(RECIPROCAL, com(-MIN), dac(-INF, -MAX));
        one(RECIPROCAL, com(0, MIN), trv(MAX, INF));
        one(RECIPROCAL, com(-MIN, 0), trv(-INF, -MAX));
        one(RECIPROCAL, com(-MIN, MIN), trv(-INF, INF));
        one(RECIPROCAL, com(0, 4), trv(0.25, INF));
        one(RECIPROCAL, com(MIN, 4), dac(0.25, INF));
        one(RECIPROCAL, com(-MIN, 4), trv(-INF, INF));
        one(RECIPROCAL, com(-4, 0), trv(-INF, -0.25));
        one(RECIPROCAL, com(-4, -MIN), dac(-INF, -0.25));
        one(RECIPROCAL, com(-4, MIN), trv(-INF, INF));
        one(RECIPROCAL, com(2, 4), com(0.25, 0.5));
        one(RECIPROCAL, com(-4, -2), com(-0.5, -0.25));
        one(RECIPROCAL, com(0x1p-1023, 4), com(0.25, 0x1p1023));
        one(RECIPROCAL, com(0x1p-1024, 4), dac(0.25, INF));
        one(RECIPROCAL, com(-4, -0x1p-1024), dac(-INF, -0.25));
        one(RECIPROCAL, dac(4, INF), dac(0, 0.25));
        one(RECIPROCAL, dac(-INF, -4), dac(-0.25, 0));
        one(RECIPROCAL, dac(0, INF), trv(0, INF));
        one(RECIPROCAL, dac(MIN, INF), dac(0, INF));
        one(RECIPROCAL, dac(-INF, 0), trv(-INF, 0));
        one(RECIPROCAL, dac(-INF, -MIN), dac(-INF, 0));
        one(RECIPROCAL, dac(-INF, INF), trv(-INF, INF));
        one(RECIPROCAL, dac(-INF, MIN), trv(-INF, INF));
        one(RECIPROCAL, dac(-MIN, INF), trv(-INF, INF));
        one(RECIPROCAL, dac(-INF, -MAX), dac(-above(0x1p-1024), 0));
        one(RECIPROCAL, com(-MAX, -2), com(-0.5, -0x1p-1024));
    }

    /** "the greatest whole number not greater"; continuous, "on these alone", if it is one number there */
    private static void floor() {
        one(FLOOR, com(1), com(1));
        one(FLOOR, com(below(1)), com(0.0));
        one(FLOOR, com(above(1)), com(1));
        one(FLOOR, com(-1), com(-1));
        one(FLOOR, com(below(-1)), com(-2));
        one(FLOOR, com(above(-1)), com(-1));
        one(FLOOR, com(MIN), com(0.0));
        one(FLOOR, com(-MIN), com(-1));
        one(FLOOR, com(-MIN, 0), def(-1, 0));
        one(FLOOR, com(0, below(1)), com(0.0));
        one(FLOOR, com(0, 1), def(0, 1));
        one(FLOOR, com(1, below(2)), com(1));
        one(FLOOR, com(1, 2), def(1, 2));
        one(FLOOR, com(below(1), 1), def(0, 1));
        one(FLOOR, com(-2, below(-1)), com(-2));
        one(FLOOR, com(below(-2), -1.5), def(-3, -2));
        one(FLOOR, com(-1, -MIN), com(-1));
    }

    /** "the least not less" */
    private static void ceiling() {
        one(CEILING, com(1), com(1));
        one(CEILING, com(below(1)), com(1));
        one(CEILING, com(above(1)), com(2));
        one(CEILING, com(-1), com(-1));
        one(CEILING, com(below(-1)), com(-1));
        one(CEILING, com(above(-1)), com(0.0));
        one(CEILING, com(MIN), com(1));
        one(CEILING, com(-MIN), com(0.0));
        one(CEILING, com(0, MIN), def(0, 1));
        one(CEILING, com(above(-1), 0), com(0.0));
        one(CEILING, com(-1, 0), def(-1, 0));
        one(CEILING, com(above(1), 2), com(2));
        one(CEILING, com(1, 2), def(1, 2));
        one(CEILING, com(1, above(1)), def(1, 2));
        one(CEILING, com(MIN, 1), com(1));
        one(CEILING, com(above(-3), -2), com(-2));
    }

    /** "the whole part towards 0" */
    private static void towardsZero() {
        one(TOWARDS_ZERO, com(1), com(1));
        one(TOWARDS_ZERO, com(below(1)), com(0.0));
        one(TOWARDS_ZERO, com(above(1)), com(1));
        one(TOWARDS_ZERO, com(-1), com(-1));
        one(TOWARDS_ZERO, com(below(-1)), com(-1));
        one(TOWARDS_ZERO, com(above(-1)), com(0.0));
        one(TOWARDS_ZERO, com(-MIN, MIN), com(0.0));
        one(TOWARDS_ZERO, com(above(-1), below(1)), com(0.0));
        one(TOWARDS_ZERO, com(-1, below(1)), def(-1, 0));
        one(TOWARDS_ZERO, com(above(-1), 1), def(0, 1));
        one(TOWARDS_ZERO, com(1, below(2)), com(1));
        one(TOWARDS_ZERO, com(1, 2), def(1, 2));
        one(TOWARDS_ZERO, com(above(-2), -1), com(-1));
        one(TOWARDS_ZERO, com(-2, -1), def(-2, -1));
        one(TOWARDS_ZERO, com(-2.5, -2), com(-2));
    }

    /** Where doubles have halves for the last time, and where all of them are whole. */
    private static void stepsFarOut() {
        double[] last = {0x1p51, 0x1p52 - 1, 0x1p51 + 1};
        for (double whole : last) {
            double half = whole + 0.5;
            one(FLOOR, com(half), com(whole));
            one(CEILING, com(half), com(whole + 1));
            one(TOWARDS_ZERO, com(half), com(whole));
            one(FLOOR, com(-half), com(-whole - 1));
            one(CEILING, com(-half), com(-whole));
            one(TOWARDS_ZERO, com(-half), com(-whole));
        }
        double[] all = {0x1p52, 0x1p52 + 1, 0x1p53 - 1, 0x1p53, 0x1p53 + 2, 0x1p63, 0x1p64, 0x1p1000 * 3, MAX};
        for (double whole : all) {
            for (int function = FLOOR; function <= TOWARDS_ZERO; function++) {
                one(function, com(whole), com(whole));
                one(function, com(-whole), com(-whole));
                one(function, com(-whole, whole), def(-whole, whole));
            }
        }
    }

    private static void stepsWithoutEnd() {
        for (int function = FLOOR; function <= TOWARDS_ZERO; function++) {
            one(function, dac(-INF, INF), def(-INF, INF));
            one(function, dac(MAX, INF), def(MAX, INF));
            one(function, dac(-INF, -MAX), def(-INF, -MAX));
        }
        one(FLOOR, dac(1.5, INF), def(1, INF));
        one(CEILING, dac(1.5, INF), def(2, INF));
        one(TOWARDS_ZERO, dac(-INF, -1.5), def(-INF, -1));
        one(FLOOR, dac(-INF, -1.5), def(-INF, -2));
        one(CEILING, dac(-INF, -1.5), def(-INF, -1));
    }

    /** "the sign, -1, 0 or 1" */
    private static void sign() {
        one(SIGN, com(0.0), com(0.0));
        one(SIGN, com(MIN), com(1));
        one(SIGN, com(-MIN), com(-1));
        one(SIGN, com(MIN, MAX), com(1));
        one(SIGN, com(-MAX, -MIN), com(-1));
        one(SIGN, com(0, MIN), def(0, 1));
        one(SIGN, com(-MIN, 0), def(-1, 0));
        one(SIGN, com(-MIN, MIN), def(-1, 1));
        one(SIGN, dac(MIN, INF), dac(1, 1));
        one(SIGN, dac(-INF, -MIN), dac(-1, -1));
        one(SIGN, dac(0, INF), def(0, 1));
        one(SIGN, dac(-INF, 0), def(-1, 0));
        one(SIGN, dac(-INF, INF), def(-1, 1));
    }

    /** Every interval between the edges, against the reference. */
    private static void everySmallPair() {
        double[] ends = {
            -INF, -MAX, -0x1p512, -2, below(-1), -1, above(-1), -0.5, -0x1p-537, -MIN, 0, MIN, 0x1p-1024, 0.5, below(1),
            1, above(1), 1.5, 2, 0x1p512, MAX, INF
        };
        for (double lower : ends) {
            for (double upper : ends) {
                if (lower <= upper && lower < INF && upper > -INF) {
                    Told x = com(lower, upper);
                    againstTheReference(x.isBounded() ? x : dac(lower, upper));
                }
            }
        }
    }

    private static void againstTheReference(Told x) {
        Reference operand = new Reference(x.lower(), x.upper());
        for (int function = 0; function <= 8; function++) {
            Reference value = Reference.unary(function, operand);
            int mark = Reference.unaryMark(function, operand, x.mark());
            one(function, x, value.isEmpty() ? EMPTY : new Told(value.lower, value.upper, mark));
        }
    }
}
