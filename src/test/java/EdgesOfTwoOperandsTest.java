import java.util.ArrayList;
import java.util.List;

/** Promise 8, and of the terms: THE VALUE of a function and its decoration, and TWO OPERANDS. */
public final class EdgesOfTwoOperandsTest extends Edges {
    private static final int SUM = 0;
    private static final int DIFFERENCE = 1;
    private static final int PRODUCT = 2;
    private static final int QUOTIENT = 3;
    private static final int LESS = 4;
    private static final int GREATER = 5;
    private static final int INTERSECTION = 6;
    private static final int HULL = 7;

    public static void main(String[] args) {
        illOperands();
        emptyOperands();
        operandsDecorations();
        oneCellTwice();
        sum();
        difference();
        product();
        productWithoutEnd();
        quotient();
        quotientByZero();
        quotientOfZero();
        quotientWithoutEnd();
        less();
        greater();
        intersection();
        hull();
        everySmallPair();
        Check.finish();
    }

    /** "A function of an operand that is ILL is ILL"; intersection and hull "are ILL if an operand is" */
    private static void illOperands() {
        Told[] others = {com(1, 2), com(0.0), dac(-INF, INF), trv(1, 2), EMPTY, ILL};
        for (int function = SUM; function <= HULL; function++) {
            for (Told other : others) {
                two(function, ILL, other, ILL);
                two(function, other, ILL, ILL);
            }
        }
    }

    /** "if an operand is empty, TRV", whatever the other one is; the hull has all of the other one */
    private static void emptyOperands() {
        Told[] others = {com(1, 2), com(0.0), dac(-INF, INF), dac(1, INF), def(-2, -1)};
        for (int function = SUM; function <= INTERSECTION; function++) {
            two(function, EMPTY, EMPTY, EMPTY);
            for (Told other : others) {
                two(function, EMPTY, other, EMPTY);
                two(function, other, EMPTY, EMPTY);
            }
        }
        two(HULL, EMPTY, EMPTY, EMPTY);
        for (Told other : others) {
            Told due = trv(other.lower(), other.upper());
            two(HULL, EMPTY, other, due);
            two(HULL, other, EMPTY, due);
        }
    }

    /** "Its decoration is the least of the operands' and the LOCAL one" */
    private static void operandsDecorations() {
        for (int a = Check.TRV; a <= Check.COM; a++) {
            for (int b = Check.TRV; b <= Check.COM; b++) {
                int operands = Math.min(a, b);
                for (int function = SUM; function <= GREATER; function++) {
                    mark(function, a, b, 1, 2, operands);
                }
                mark(SUM, a, b, MAX, MAX, Math.min(Check.DAC, operands));
                mark(PRODUCT, a, b, MAX, 2, Math.min(Check.DAC, operands));
                mark(QUOTIENT, a, b, MAX, 0.5, Math.min(Check.DAC, operands));
                mark(QUOTIENT, a, b, 1, 0, Check.TRV);
                mark(INTERSECTION, a, b, 1, 2, Check.TRV);
                mark(INTERSECTION, a, b, 1, 1, Check.TRV);
                mark(HULL, a, b, 1, 2, Check.TRV);
                mark(HULL, a, b, 1, 1, Check.TRV);
            }
        }
    }

    private static void mark(int function, int a, int b, double x, double y, int due) {
        OutwardTape tape = new OutwardTape();
        Check.put(tape, x, x, a);
        Check.put(tape, y, y, b);
        String what = "function " + function + " of " + x + "_" + a + " and " + y + "_" + b;
        Check.due(what, tape.decoration(tape.binary(function, 0, 1)), due);
    }

    /** The operands are two even where they are one cell: their points are taken apart. */
    private static void oneCellTwice() {
        OutwardTape tape = new OutwardTape();
        com(-1, 2).putOn(tape);
        Told[] due = {
            com(-2, 4), com(-3, 3), com(-2, 4), trv(-INF, INF), com(-1, 2), com(-1, 2), trv(-1, 2), trv(-1, 2)
        };
        for (int function = SUM; function <= HULL; function++) {
            due[function].due("function " + function + " of a cell twice", tape, tape.binary(function, 0, 0));
        }
    }

    private static void sum() {
        two(SUM, com(1, 2), com(3, 5), com(4, 7));
        two(SUM, com(-1, 2), com(-3, 5), com(-4, 7));
        two(SUM, com(0.0), com(0.0), com(0.0));
        two(SUM, com(-MAX, MAX), com(-MAX, MAX), dac(-INF, INF));
        two(SUM, com(-MAX, 1), com(-MIN, 1), dac(-INF, 2));
        two(SUM, com(-MAX, 1), com(0, 1), com(-MAX, 2));
        two(SUM, com(1, MAX), com(MIN, MIN), dac(1, INF));
        two(SUM, com(1, MAX), com(0.0), com(1, MAX));
        two(SUM, dac(-INF, 1), com(1, 2), dac(-INF, 3));
        two(SUM, com(1, 2), dac(-INF, 1), dac(-INF, 3));
        two(SUM, dac(1, INF), com(1, 2), dac(2, INF));
        two(SUM, com(1, 2), dac(1, INF), dac(2, INF));
        two(SUM, dac(-INF, 1), dac(1, INF), dac(-INF, INF));
        two(SUM, dac(-INF, 1), dac(-INF, 2), dac(-INF, 3));
        two(SUM, dac(MAX, INF), dac(MAX, INF), dac(MAX, INF));
        two(SUM, dac(-INF, -MAX), dac(-INF, -MAX), dac(-INF, -MAX));
        two(SUM, dac(-INF, INF), com(0.0), dac(-INF, INF));
    }

    private static void difference() {
        two(DIFFERENCE, com(1, 2), com(3, 5), com(-4, -1));
        two(DIFFERENCE, com(3, 5), com(1, 2), com(1, 4));
        two(DIFFERENCE, com(1, 2), com(1, 2), com(-1, 1));
        two(DIFFERENCE, com(-MAX, MAX), com(-MAX, MAX), dac(-INF, INF));
        two(DIFFERENCE, com(MAX), com(MAX), com(0.0));
        two(DIFFERENCE, com(MAX), com(-MIN, 0), dac(MAX, INF));
        two(DIFFERENCE, com(MAX), com(0, MIN), com(below(MAX), MAX));
        two(DIFFERENCE, dac(-INF, 1), dac(-INF, 2), dac(-INF, INF));
        two(DIFFERENCE, dac(-INF, 1), dac(2, INF), dac(-INF, -1));
        two(DIFFERENCE, dac(1, INF), dac(-INF, 2), dac(-1, INF));
        two(DIFFERENCE, dac(1, INF), dac(2, INF), dac(-INF, INF));
        two(DIFFERENCE, com(1), dac(2, INF), dac(-INF, -1));
        two(DIFFERENCE, com(1), dac(-INF, 2), dac(-1, INF));
        two(DIFFERENCE, dac(-INF, INF), dac(-INF, INF), dac(-INF, INF));
    }

    private static void product() {
        two(PRODUCT, com(2, 3), com(5, 7), com(10, 21));
        two(PRODUCT, com(2, 3), com(-5, 7), com(-15, 21));
        two(PRODUCT, com(2, 3), com(-7, -5), com(-21, -10));
        two(PRODUCT, com(-2, 3), com(5, 7), com(-14, 21));
        two(PRODUCT, com(-2, 3), com(-5, 7), com(-15, 21));
        two(PRODUCT, com(-3, 2), com(-7, 5), com(-15, 21));
        two(PRODUCT, com(-2, 3), com(-7, 5), com(-21, 15));
        two(PRODUCT, com(-2, 3), com(-7, -5), com(-21, 14));
        two(PRODUCT, com(-3, -2), com(5, 7), com(-21, -10));
        two(PRODUCT, com(-3, -2), com(-5, 7), com(-21, 15));
        two(PRODUCT, com(-3, -2), com(-7, -5), com(10, 21));
        two(PRODUCT, com(0, 3), com(-5, 0), com(-15, 0));
        two(PRODUCT, com(0.0), com(-MAX, MAX), com(0.0));
        two(PRODUCT, com(-MIN, MIN), com(-MIN, MIN), com(-MIN, MIN));
        two(PRODUCT, com(-MAX, MAX), com(-MAX, MAX), dac(-INF, INF));
        two(PRODUCT, com(MAX), com(1, above(1)), dac(MAX, INF));
        two(PRODUCT, com(MAX), com(below(1), 1), com(below(MAX), MAX));
        two(PRODUCT, com(-MAX), com(1, above(1)), dac(-INF, -MAX));
    }

    /** Infinity is no point: zero times the points of an unbounded operand is zero. */
    private static void productWithoutEnd() {
        two(PRODUCT, com(0.0), dac(-INF, INF), dac(0, 0));
        two(PRODUCT, dac(-INF, INF), com(0.0), dac(0, 0));
        two(PRODUCT, com(0.0), dac(MAX, INF), dac(0, 0));
        two(PRODUCT, com(0.0), dac(-INF, -MAX), dac(0, 0));
        two(PRODUCT, com(0, 1), dac(1, INF), dac(0, INF));
        two(PRODUCT, com(0, MIN), dac(-INF, -1), dac(-INF, 0));
        two(PRODUCT, com(-1, 0), dac(1, INF), dac(-INF, 0));
        two(PRODUCT, com(-MIN, 0), dac(-INF, -1), dac(0, INF));
        two(PRODUCT, com(-MIN, MIN), dac(1, INF), dac(-INF, INF));
        two(PRODUCT, com(2), dac(1, INF), dac(2, INF));
        two(PRODUCT, com(-2), dac(1, INF), dac(-INF, -2));
        two(PRODUCT, dac(1, INF), dac(2, INF), dac(2, INF));
        two(PRODUCT, dac(-INF, -1), dac(-INF, -2), dac(2, INF));
        two(PRODUCT, dac(-INF, -1), dac(2, INF), dac(-INF, -2));
        two(PRODUCT, dac(0, INF), dac(0, INF), dac(0, INF));
        two(PRODUCT, dac(-INF, 0), dac(0, INF), dac(-INF, 0));
        two(PRODUCT, dac(-INF, INF), com(MIN), dac(-INF, INF));
        two(PRODUCT, dac(-INF, INF), dac(-INF, INF), dac(-INF, INF));
    }

    /** "the quotient (defined where the second is not 0)" */
    private static void quotient() {
        two(QUOTIENT, com(6, 12), com(2, 3), com(2, 6));
        two(QUOTIENT, com(6, 12), com(-3, -2), com(-6, -2));
        two(QUOTIENT, com(-6, 12), com(2, 3), com(-3, 6));
        two(QUOTIENT, com(-6, 12), com(-3, -2), com(-6, 3));
        two(QUOTIENT, com(-12, -6), com(2, 3), com(-6, -2));
        two(QUOTIENT, com(-12, -6), com(-3, -2), com(2, 6));
        two(QUOTIENT, com(0, 6), com(2, 3), com(0, 3));
        two(QUOTIENT, com(-6, 0), com(2, 3), com(-3, 0));
        two(QUOTIENT, com(0, 6), com(-3, -2), com(-3, 0));
        two(QUOTIENT, com(1), com(MIN, 1), dac(1, INF));
        two(QUOTIENT, com(1), com(-1, -MIN), dac(-INF, -1));
        two(QUOTIENT, com(MIN), com(MIN, 1), com(MIN, 1));
        two(QUOTIENT, com(MAX), com(1), com(MAX));
        two(QUOTIENT, com(MAX), com(below(1), 1), dac(MAX, INF));
        two(QUOTIENT, com(-MAX), com(below(1), 1), dac(-INF, -MAX));
        two(QUOTIENT, com(MIN), com(1, above(1)), com(0, MIN));
    }

    private static void quotientByZero() {
        Told[] all = {com(1, 2), com(-2, -1), com(-1, 2), com(0.0), com(0, 1), dac(1, INF), dac(-INF, INF)};
        for (Told x : all) {
            two(QUOTIENT, x, com(0.0), EMPTY);
        }
        two(QUOTIENT, com(1, 2), com(0, MIN), trv(MAX, INF));
        two(QUOTIENT, com(1, 2), com(0, 4), trv(0.25, INF));
        two(QUOTIENT, com(1, 2), com(MIN, 4), dac(0.25, INF));
        two(QUOTIENT, com(1, 2), com(-MIN, 4), trv(-INF, INF));
        two(QUOTIENT, com(1, 2), com(-4, 0), trv(-INF, -0.25));
        two(QUOTIENT, com(1, 2), com(-4, -MIN), dac(-INF, -0.25));
        two(QUOTIENT, com(1, 2), com(-4, MIN), trv(-INF, INF));
        two(QUOTIENT, com(-2, -1), com(0, 4), trv(-INF, -0.25));
        two(QUOTIENT, com(-2, -1), com(-4, 0), trv(0.25, INF));
        two(QUOTIENT, com(-1, 2), com(0, 4), trv(-INF, INF));
        two(QUOTIENT, com(-1, 2), com(-4, 0), trv(-INF, INF));
        two(QUOTIENT, com(-MIN, 2), com(0, 4), trv(-INF, INF));
        two(QUOTIENT, com(0, 2), com(0, 4), trv(0, INF));
        two(QUOTIENT, com(MIN, 2), com(0, 4), trv(0, INF));
        two(QUOTIENT, com(0, 2), com(-4, 0), trv(-INF, 0));
        two(QUOTIENT, com(-2, 0), com(0, 4), trv(-INF, 0));
        two(QUOTIENT, com(-2, 0), com(-4, 0), trv(0, INF));
        two(QUOTIENT, com(0, 2), com(-4, 4), trv(-INF, INF));
        two(QUOTIENT, com(0, MIN), com(-MAX, MAX), trv(-INF, INF));
        two(QUOTIENT, def(1, 2), com(0, 4), trv(0.25, INF));
    }

    private static void quotientOfZero() {
        two(QUOTIENT, com(0.0), com(1, 2), com(0.0));
        two(QUOTIENT, com(0.0), com(-2, -1), com(0.0));
        two(QUOTIENT, com(0.0), com(MIN), com(0.0));
        two(QUOTIENT, com(0.0), com(0, 1), trv(0, 0));
        two(QUOTIENT, com(0.0), com(-1, 0), trv(0, 0));
        two(QUOTIENT, com(0.0), com(-1, 1), trv(0, 0));
        two(QUOTIENT, com(0.0), dac(-INF, INF), trv(0, 0));
        two(QUOTIENT, com(0.0), dac(0, INF), trv(0, 0));
        two(QUOTIENT, com(0.0), dac(MIN, INF), dac(0, 0));
        two(QUOTIENT, com(0.0), dac(-INF, -MIN), dac(0, 0));
    }

    private static void quotientWithoutEnd() {
        two(QUOTIENT, com(1, 2), dac(4, INF), dac(0, 0.5));
        two(QUOTIENT, com(-2, -1), dac(4, INF), dac(-0.5, 0));
        two(QUOTIENT, com(1, 2), dac(-INF, -4), dac(-0.5, 0));
        two(QUOTIENT, com(-2, -1), dac(-INF, -4), dac(0, 0.5));
        two(QUOTIENT, com(-2, 1), dac(4, INF), dac(-0.5, 0.25));
        two(QUOTIENT, dac(1, INF), com(2, 4), dac(0.25, INF));
        two(QUOTIENT, dac(1, INF), com(-4, -2), dac(-INF, -0.25));
        two(QUOTIENT, dac(-INF, -1), com(2, 4), dac(-INF, -0.25));
        two(QUOTIENT, dac(-INF, 1), com(2, 4), dac(-INF, 0.5));
        two(QUOTIENT, dac(1, INF), dac(2, INF), dac(0, INF));
        two(QUOTIENT, dac(-INF, -1), dac(2, INF), dac(-INF, 0));
        two(QUOTIENT, dac(1, INF), dac(-INF, -2), dac(-INF, 0));
        two(QUOTIENT, dac(-INF, -1), dac(-INF, -2), dac(0, INF));
        two(QUOTIENT, dac(-INF, INF), com(2), dac(-INF, INF));
        two(QUOTIENT, dac(-INF, INF), dac(2, INF), dac(-INF, INF));
        two(QUOTIENT, dac(1, INF), dac(0, INF), trv(0, INF));
        two(QUOTIENT, dac(1, INF), com(0, 4), trv(0.25, INF));
        two(QUOTIENT, com(1, 2), dac(0, INF), trv(0, INF));
        two(QUOTIENT, com(1, 2), dac(-INF, 0), trv(-INF, 0));
        two(QUOTIENT, com(1, 2), dac(-INF, INF), trv(-INF, INF));
        two(QUOTIENT, dac(-INF, INF), dac(-INF, INF), trv(-INF, INF));
    }

    /** "the less" */
    private static void less() {
        two(LESS, com(1, 4), com(2, 3), com(1, 3));
        two(LESS, com(2, 3), com(1, 4), com(1, 3));
        two(LESS, com(1, 2), com(3, 4), com(1, 2));
        two(LESS, com(1, 2), com(above(1), below(2)), com(1, below(2)));
        two(LESS, com(1, 2), com(1, 2), com(1, 2));
        two(LESS, com(-2, -1), com(1, 2), com(-2, -1));
        two(LESS, dac(-INF, 1), com(0, 2), dac(-INF, 1));
        two(LESS, dac(1, INF), com(0, 2), dac(0, 2));
        two(LESS, dac(1, INF), dac(2, INF), dac(1, INF));
        two(LESS, dac(-INF, INF), com(0.0), dac(-INF, 0));
        two(LESS, com(-MIN, MIN), com(0.0), com(-MIN, 0));
    }

    /** "the greater one" */
    private static void greater() {
        two(GREATER, com(1, 4), com(2, 3), com(2, 4));
        two(GREATER, com(2, 3), com(1, 4), com(2, 4));
        two(GREATER, com(1, 2), com(3, 4), com(3, 4));
        two(GREATER, com(1, 2), com(above(1), below(2)), com(above(1), 2));
        two(GREATER, com(1, 2), com(1, 2), com(1, 2));
        two(GREATER, com(-2, -1), com(1, 2), com(1, 2));
        two(GREATER, dac(-INF, 1), com(0, 2), dac(0, 2));
        two(GREATER, dac(1, INF), com(0, 2), dac(1, INF));
        two(GREATER, dac(-INF, 1), dac(-INF, 2), dac(-INF, 2));
        two(GREATER, dac(-INF, INF), com(0.0), dac(0, INF));
        two(GREATER, com(-MIN, MIN), com(0.0), com(0, MIN));
    }

    /** "the intersection of both intervals": with one point in common, with none, with all */
    private static void intersection() {
        two(INTERSECTION, com(1, 2), com(2, 3), trv(2, 2));
        two(INTERSECTION, com(1, 2), com(above(2), 3), EMPTY);
        two(INTERSECTION, com(1, 2), com(below(2), 3), trv(below(2), 2));
        two(INTERSECTION, com(2, 3), com(1, 2), trv(2, 2));
        two(INTERSECTION, com(above(2), 3), com(1, 2), EMPTY);
        two(INTERSECTION, com(1, 4), com(2, 3), trv(2, 3));
        two(INTERSECTION, com(2, 3), com(1, 4), trv(2, 3));
        two(INTERSECTION, com(1, 2), com(1, 2), trv(1, 2));
        two(INTERSECTION, com(-1, 0), com(0, 1), trv(0, 0));
        two(INTERSECTION, com(-1, -MIN), com(0, 1), EMPTY);
        two(INTERSECTION, com(-1, 0), com(MIN, 1), EMPTY);
        two(INTERSECTION, dac(-INF, 1), dac(1, INF), trv(1, 1));
        two(INTERSECTION, dac(-INF, below(1)), dac(1, INF), EMPTY);
        two(INTERSECTION, dac(-INF, INF), com(1, 2), trv(1, 2));
        two(INTERSECTION, dac(-INF, INF), dac(-INF, INF), trv(-INF, INF));
        two(INTERSECTION, dac(MAX, INF), dac(MAX, INF), trv(MAX, INF));
        two(INTERSECTION, dac(MAX, INF), com(below(MAX)), EMPTY);
    }

    /** "the tightest interval that has both in it" */
    private static void hull() {
        two(HULL, com(1, 2), com(3, 4), trv(1, 4));
        two(HULL, com(3, 4), com(1, 2), trv(1, 4));
        two(HULL, com(1, 4), com(2, 3), trv(1, 4));
        two(HULL, com(2, 3), com(1, 4), trv(1, 4));
        two(HULL, com(1, 2), com(1, 2), trv(1, 2));
        two(HULL, com(1, 2), com(below(1), above(2)), trv(below(1), above(2)));
        two(HULL, com(-MIN), com(MIN), trv(-MIN, MIN));
        two(HULL, com(-MAX), com(MAX), trv(-MAX, MAX));
        two(HULL, dac(-INF, 1), com(3), trv(-INF, 3));
        two(HULL, com(3), dac(4, INF), trv(3, INF));
        two(HULL, dac(-INF, 1), dac(2, INF), trv(-INF, INF));
        two(HULL, dac(-INF, INF), com(1), trv(-INF, INF));
    }

    /** Every two intervals between a few edges, against the reference. */
    private static void everySmallPair() {
        double[] ends = {-INF, -MAX, -2, -MIN, 0, MIN, 0.75, 3, MAX, INF};
        List<Told> all = new ArrayList<>();
        for (double lower : ends) {
            for (double upper : ends) {
                if (lower <= upper && lower < INF && upper > -INF) {
                    Told x = com(lower, upper);
                    all.add(x.isBounded() ? x : dac(lower, upper));
                }
            }
        }
        all.add(EMPTY);
        for (Told x : all) {
            for (Told y : all) {
                againstTheReference(x, y);
            }
        }
    }

    private static void againstTheReference(Told x, Told y) {
        Reference first = new Reference(x.lower(), x.upper());
        Reference second = new Reference(y.lower(), y.upper());
        for (int function = SUM; function <= HULL; function++) {
            Reference value = Reference.binary(function, first, second);
            int mark = Reference.binaryMark(function, first, second, Math.min(x.mark(), y.mark()));
            two(function, x, y, value.isEmpty() ? EMPTY : new Told(value.lower, value.upper, mark));
        }
    }
}
