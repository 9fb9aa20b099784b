import java.util.ArrayList;
import java.util.List;

/** Promise 14, and of the terms: RELATIONS, each at the bounds that make it hold, one below and one above them. */
public final class EdgesOfRelationsTest extends Edges {
    private static final int EQUAL = 0;
    private static final int SUBSET = 1;
    private static final int INTERIOR = 2;
    private static final int LESS = 3;
    private static final int PRECEDES = 4;
    private static final int STRICTLY_LESS = 5;
    private static final int STRICTLY_PRECEDES = 6;
    private static final int DISJOINT = 7;

    public static void main(String[] args) {
        illCells();
        noSuchRelation();
        noSuchCell();
        decorationsDoNotMatter();
        emptyOnes();
        equal();
        subset();
        interior();
        less();
        precedes();
        strictlyLess();
        strictlyPrecedes();
        disjoint();
        everySmallPair();
        Check.finish();
    }

    private static Told at(double lower, double upper) {
        return trv(lower, upper);
    }

    private static boolean asked(int which, Told x, Told y) {
        OutwardTape tape = new OutwardTape();
        x.putOn(tape);
        y.putOn(tape);
        return tape.relation(which, 0, 1);
    }

    private static void holds(int which, Told x, Told y) {
        Check.due("relation " + which + " of " + x + " and " + y, asked(which, x, y), true);
    }

    private static void fails(int which, Told x, Told y) {
        Check.due("relation " + which + " of " + x + " and " + y, asked(which, x, y), false);
    }

    /** "None holds if one cell is ILL." */
    private static void illCells() {
        Told[] others = {ILL, EMPTY, at(1, 2), at(-INF, INF), at(0, 0)};
        for (int which = EQUAL; which <= DISJOINT; which++) {
            for (Told other : others) {
                fails(which, ILL, other);
                fails(which, other, ILL);
            }
            OutwardTape tape = new OutwardTape();
            ILL.putOn(tape);
            Check.due("relation " + which + " of ILL to itself", tape.relation(which, 0, 0), false);
        }
    }

    /** "false when there is no such relation": of the empty ones, of which all eight hold */
    private static void noSuchRelation() {
        int[] none = {-1, 8, 9, 16, 256, 65536, -8, Integer.MAX_VALUE, Integer.MIN_VALUE};
        for (int which : none) {
            fails(which, EMPTY, EMPTY);
            fails(which, at(1, 2), at(1, 2));
            fails(which, ILL, ILL);
        }
        for (int which = EQUAL; which <= DISJOINT; which++) {
            holds(which, EMPTY, EMPTY);
        }
    }

    /** "false when there is no such .. cell" */
    private static void noSuchCell() {
        for (int cells : new int[] {1, 2, 39, 40}) {
            for (int which = EQUAL; which <= DISJOINT; which++) {
                OutwardTape tape = new OutwardTape();
                for (int x = 0; x < cells; x++) {
                    EMPTY.putOn(tape);
                }
                Check.due("relation of the last cell", tape.relation(which, cells - 1, 0), true);
                Check.due("relation to the last cell", tape.relation(which, 0, cells - 1), true);
                notThere(tape, which, cells);
                for (int x : NEVER_A_CELL) {
                    notThere(tape, which, x);
                }
            }
        }
    }

    private static void notThere(OutwardTape tape, int which, int x) {
        Check.due("relation " + which + " of cell " + x, tape.relation(which, x, 0), false);
        Check.due("relation " + which + " to cell " + x, tape.relation(which, 0, x), false);
        Check.due("relation " + which + " of none to none", tape.relation(which, x, x), false);
    }

    private static void decorationsDoNotMatter() {
        for (int a = Check.TRV; a <= Check.COM; a++) {
            for (int b = Check.TRV; b <= Check.COM; b++) {
                holds(EQUAL, new Told(1, 2, a), new Told(1, 2, b));
                holds(INTERIOR, new Told(1, 2, a), new Told(0, 3, b));
                holds(DISJOINT, new Told(1, 2, a), new Told(3, 4, b));
                fails(EQUAL, new Told(1, 2, a), new Told(1, 3, b));
            }
        }
    }

    /** "x is empty", "both are empty", "one is empty", "neither is" */
    private static void emptyOnes() {
        Told[] others = {at(1, 2), at(0, 0), at(-INF, INF), at(1, INF), at(-INF, 1), at(-MAX, MAX)};
        int[] ofEmptyAndOther = {SUBSET, INTERIOR, PRECEDES, STRICTLY_PRECEDES, DISJOINT};
        int[] ofOtherAndEmpty = {PRECEDES, STRICTLY_PRECEDES, DISJOINT};
        for (Told other : others) {
            for (int which = EQUAL; which <= DISJOINT; which++) {
                Check.due("relation " + which + " of empty and " + other, asked(which, EMPTY, other),
                    has(ofEmptyAndOther, which));
                Check.due("relation " + which + " of " + other + " and empty", asked(which, other, EMPTY),
                    has(ofOtherAndEmpty, which));
            }
        }
    }

    private static boolean has(int[] all, int which) {
        for (int one : all) {
            if (one == which) {
                return true;
            }
        }
        return false;
    }

    /** "the same set" */
    private static void equal() {
        holds(EQUAL, at(1, 2), at(1, 2));
        holds(EQUAL, at(0.0, 0.0), at(-0.0, -0.0));
        holds(EQUAL, at(-INF, INF), at(-INF, INF));
        holds(EQUAL, at(MAX, INF), at(MAX, INF));
        fails(EQUAL, at(1, 2), at(1, above(2)));
        fails(EQUAL, at(1, 2), at(1, below(2)));
        fails(EQUAL, at(1, 2), at(above(1), 2));
        fails(EQUAL, at(1, 2), at(below(1), 2));
        fails(EQUAL, at(-MAX, MAX), at(-MAX, INF));
        fails(EQUAL, at(-INF, MAX), at(-INF, INF));
        fails(EQUAL, at(-MIN, 0), at(0, 0));
        fails(EQUAL, at(1, 2), at(-2, -1));
    }

    /** "every point of x is in y" */
    private static void subset() {
        holds(SUBSET, at(1, 2), at(1, 2));
        holds(SUBSET, at(1, 2), at(below(1), above(2)));
        holds(SUBSET, at(above(1), 2), at(1, 2));
        holds(SUBSET, at(1, below(2)), at(1, 2));
        fails(SUBSET, at(below(1), 2), at(1, 2));
        fails(SUBSET, at(1, above(2)), at(1, 2));
        fails(SUBSET, at(1, 2), at(above(1), 2));
        fails(SUBSET, at(1, 2), at(1, below(2)));
        holds(SUBSET, at(-INF, INF), at(-INF, INF));
        fails(SUBSET, at(-INF, INF), at(-MAX, INF));
        fails(SUBSET, at(-INF, INF), at(-INF, MAX));
        holds(SUBSET, at(-MAX, MAX), at(-INF, INF));
        holds(SUBSET, at(0.0, 0.0), at(-0.0, -0.0));
        fails(SUBSET, at(3, 4), at(1, 2));
    }

    /** "neither is and y's lower is below x's and x's upper below y's"; "or if both are the same infinity" */
    private static void interior() {
        holds(INTERIOR, at(1, 2), at(below(1), above(2)));
        fails(INTERIOR, at(1, 2), at(1, above(2)));
        fails(INTERIOR, at(1, 2), at(below(1), 2));
        fails(INTERIOR, at(1, 2), at(1, 2));
        fails(INTERIOR, at(1, 2), at(above(1), 3));
        fails(INTERIOR, at(1, 2), at(0, below(2)));
        fails(INTERIOR, at(1, 1), at(1, 1));
        holds(INTERIOR, at(-INF, INF), at(-INF, INF));
        holds(INTERIOR, at(-INF, 1), at(-INF, above(1)));
        fails(INTERIOR, at(-INF, 1), at(-INF, 1));
        holds(INTERIOR, at(1, INF), at(below(1), INF));
        fails(INTERIOR, at(1, INF), at(1, INF));
        holds(INTERIOR, at(-MAX, MAX), at(-INF, INF));
        fails(INTERIOR, at(-INF, INF), at(-MAX, INF));
        fails(INTERIOR, at(-INF, INF), at(-INF, MAX));
        fails(INTERIOR, at(-MAX, MAX), at(-MAX, MAX));
        fails(INTERIOR, at(0.0, 0.0), at(-0.0, MIN));
        holds(INTERIOR, at(0.0, 0.0), at(-MIN, MIN));
    }

    /** "x's lower is not greater than y's and x's upper not greater than y's" */
    private static void less() {
        holds(LESS, at(1, 2), at(1, 2));
        holds(LESS, at(1, 2), at(above(1), 2));
        holds(LESS, at(1, 2), at(1, above(2)));
        fails(LESS, at(1, 2), at(below(1), 2));
        fails(LESS, at(1, 2), at(1, below(2)));
        fails(LESS, at(1, 2), at(below(1), above(2)));
        fails(LESS, at(1, 2), at(above(1), below(2)));
        holds(LESS, at(-INF, INF), at(-INF, INF));
        holds(LESS, at(-INF, 1), at(-INF, 1));
        holds(LESS, at(1, INF), at(1, INF));
        holds(LESS, at(-INF, 1), at(-MAX, 1));
        fails(LESS, at(-MAX, 1), at(-INF, 1));
        holds(LESS, at(1, MAX), at(1, INF));
        fails(LESS, at(1, INF), at(1, MAX));
        holds(LESS, at(0.0, 0.0), at(-0.0, -0.0));
        fails(LESS, at(3, 4), at(1, 2));
    }

    /** "x's upper is not greater than y's lower" */
    private static void precedes() {
        holds(PRECEDES, at(1, 2), at(2, 3));
        holds(PRECEDES, at(1, 2), at(above(2), 3));
        fails(PRECEDES, at(1, 2), at(below(2), 3));
        holds(PRECEDES, at(1, 1), at(1, 1));
        fails(PRECEDES, at(1, above(1)), at(1, above(1)));
        holds(PRECEDES, at(-1, 0.0), at(-0.0, 1));
        fails(PRECEDES, at(2, 3), at(1, 2));
        holds(PRECEDES, at(-INF, 1), at(1, INF));
        fails(PRECEDES, at(-INF, INF), at(-INF, INF));
        fails(PRECEDES, at(1, INF), at(MAX, INF));
        fails(PRECEDES, at(1, 2), at(-INF, 3));
        holds(PRECEDES, at(-INF, MAX), at(MAX, INF));
        fails(PRECEDES, at(3, 4), at(1, 2));
    }

    /** "x's lower is below y's and x's upper below y's", "or if both are the same infinity" */
    private static void strictlyLess() {
        holds(STRICTLY_LESS, at(1, 2), at(above(1), above(2)));
        fails(STRICTLY_LESS, at(1, 2), at(1, above(2)));
        fails(STRICTLY_LESS, at(1, 2), at(above(1), 2));
        fails(STRICTLY_LESS, at(1, 2), at(1, 2));
        fails(STRICTLY_LESS, at(1, 2), at(below(1), 3));
        fails(STRICTLY_LESS, at(1, 3), at(2, below(3)));
        holds(STRICTLY_LESS, at(-INF, INF), at(-INF, INF));
        holds(STRICTLY_LESS, at(-INF, 1), at(-INF, above(1)));
        fails(STRICTLY_LESS, at(-INF, 1), at(-INF, 1));
        holds(STRICTLY_LESS, at(1, INF), at(above(1), INF));
        fails(STRICTLY_LESS, at(1, INF), at(1, INF));
        holds(STRICTLY_LESS, at(-INF, 1), at(-MAX, 2));
        fails(STRICTLY_LESS, at(-MAX, 1), at(-INF, 2));
        holds(STRICTLY_LESS, at(1, MAX), at(2, INF));
        fails(STRICTLY_LESS, at(1, INF), at(2, MAX));
        fails(STRICTLY_LESS, at(-0.0, 1), at(0.0, 2));
    }

    /** "x's upper is less than y's lower" */
    private static void strictlyPrecedes() {
        holds(STRICTLY_PRECEDES, at(1, 2), at(above(2), 3));
        fails(STRICTLY_PRECEDES, at(1, 2), at(2, 3));
        fails(STRICTLY_PRECEDES, at(1, 2), at(below(2), 3));
        fails(STRICTLY_PRECEDES, at(1, 1), at(1, 1));
        fails(STRICTLY_PRECEDES, at(-1, -0.0), at(0.0, 1));
        holds(STRICTLY_PRECEDES, at(-1, -MIN), at(0, 1));
        holds(STRICTLY_PRECEDES, at(-1, 0), at(MIN, 1));
        fails(STRICTLY_PRECEDES, at(3, 4), at(1, 2));
        fails(STRICTLY_PRECEDES, at(-INF, INF), at(-INF, INF));
        fails(STRICTLY_PRECEDES, at(-INF, 1), at(1, INF));
        holds(STRICTLY_PRECEDES, at(-INF, 1), at(above(1), INF));
        holds(STRICTLY_PRECEDES, at(-INF, below(MAX)), at(MAX, INF));
    }

    /** "they have no point in common" */
    private static void disjoint() {
        fails(DISJOINT, at(1, 2), at(2, 3));
        holds(DISJOINT, at(1, 2), at(above(2), 3));
        fails(DISJOINT, at(1, 2), at(below(2), 3));
        fails(DISJOINT, at(2, 3), at(1, 2));
        holds(DISJOINT, at(2, 3), at(1, below(2)));
        fails(DISJOINT, at(2, 3), at(1, above(2)));
        fails(DISJOINT, at(1, 4), at(2, 3));
        fails(DISJOINT, at(2, 3), at(1, 4));
        fails(DISJOINT, at(-1, -0.0), at(0.0, 1));
        holds(DISJOINT, at(-1, -MIN), at(0, 1));
        fails(DISJOINT, at(-INF, INF), at(1, 1));
        fails(DISJOINT, at(-INF, 1), at(-INF, -1));
        fails(DISJOINT, at(1, INF), at(MAX, INF));
        holds(DISJOINT, at(1, INF), at(-INF, below(1)));
    }

    private static void everySmallPair() {
        double[] ends = {-INF, -MAX, -1, -MIN, 0, MIN, 1, above(1), MAX, INF};
        List<Told> all = new ArrayList<>();
        for (double lower : ends) {
            for (double upper : ends) {
                if (lower <= upper && lower < INF && upper > -INF) {
                    all.add(at(lower, upper));
                }
            }
        }
        all.add(EMPTY);
        for (Told x : all) {
            for (Told y : all) {
                Reference first = new Reference(x.lower(), x.upper());
                Reference second = new Reference(y.lower(), y.upper());
                for (int which = EQUAL; which <= DISJOINT; which++) {
                    boolean due = Reference.relation(which, first, second);
                    Check.due("relation " + which + " of " + x + " and " + y, asked(which, x, y), due);
                }
            }
        }
    }
}
