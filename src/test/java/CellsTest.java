/** Promises 5 to 13 beside the arithmetic: cell numbers, exceptions and their order, bounds, what is told of cells. */
public final class CellsTest {
    private static final int[] NO_CELLS = {-1, 2, 39, 40, 41, Integer.MAX_VALUE, Integer.MIN_VALUE};

    public static void main(String[] args) {
        boundsAsked();
        badDecorations();
        badFunctions();
        badCells();
        fullTape();
        absentCells();
        illOperands();
        emptyOperands();
        decorations();
        Check.finish();
    }

    private static void boundsAsked() {
        double inf = Double.POSITIVE_INFINITY;
        OutwardTape tape = new OutwardTape();
        for (int mark = Check.TRV; mark <= Check.COM; mark++) {
            Check.interval("bounds", tape, Check.put(tape, -1.5, 2.5, mark), -1.5, 2.5, mark);
        }
        Check.intervalBits("zeros", tape, Check.put(tape, 0.0, -0.0, Check.COM), Check.MINUS_ZERO, 0, Check.COM);
        Check.intervalBits("zeros", tape, Check.put(tape, -0.0, 0.0, Check.DEF), Check.MINUS_ZERO, 0, Check.DEF);
        int right = Check.put(tape, 0.0, 1, Check.COM);
        Check.intervalBits("from 0", tape, right, Check.MINUS_ZERO, Check.upperBits(1), Check.COM);
        Check.intervalBits("to 0", tape, Check.put(tape, -1, -0.0, Check.COM), Check.lowerBits(-1), 0, Check.COM);
        Check.interval("entire", tape, Check.put(tape, -inf, inf, Check.DAC), -inf, inf, Check.DAC);
        Check.interval("half", tape, Check.put(tape, 1, inf, Check.DAC), 1, inf, Check.DAC);
        Check.interval("half", tape, Check.put(tape, -inf, 1, Check.TRV), -inf, 1, Check.TRV);
        int least = tape.bounds(0x8000000000000001L, 1, Check.COM);
        Check.intervalBits("least", tape, least, 0x8000000000000001L, 1, Check.COM);
        int finite = tape.bounds(Check.MINUS_MAX, Check.MAX, Check.COM);
        Check.intervalBits("all that is finite", tape, finite, Check.MINUS_MAX, Check.MAX, Check.COM);
        Check.ill("half with COM", tape, Check.put(tape, 1, inf, Check.COM));
        Check.ill("half with COM", tape, Check.put(tape, -inf, 1, Check.COM));
        Check.ill("entire with COM", tape, Check.put(tape, -inf, inf, Check.COM));
        Check.ill("turned round", tape, Check.put(tape, 1, Math.nextDown(1.0), Check.TRV));
        Check.ill("turned round", tape, Check.put(tape, -1, -2, Check.COM));
        Check.ill("turned round", tape, Check.put(tape, inf, -inf, Check.TRV));
        Check.ill("at infinity", tape, Check.put(tape, inf, inf, Check.DAC));
        Check.ill("at infinity", tape, Check.put(tape, -inf, -inf, Check.DAC));
        long[] noNumbers = {Check.NAN, 0x7FF0000000000001L, 0xFFF0000000000001L, -1L, Long.MAX_VALUE};
        for (long bits : noNumbers) {
            Check.ill("no lower", tape, tape.bounds(bits, Check.INF, Check.TRV));
            Check.ill("no upper", tape, tape.bounds(Check.MINUS_INF, bits, Check.TRV));
            Check.ill("no bounds", tape, tape.bounds(bits, bits, Check.COM));
        }
    }

    private static void badDecorations() {
        OutwardTape tape = new OutwardTape();
        int[] bad = {0, 5, -1, Integer.MAX_VALUE, Integer.MIN_VALUE};
        for (int mark : bad) {
            Check.throwing("bounds", IllegalArgumentException.class, () -> tape.bounds(0, 0, mark));
            Check.throwing("bounds", IllegalArgumentException.class, () -> tape.bounds(Check.NAN, 0, mark));
        }
        Check.due("filled", tape.filled(), 0);
    }

    private static void badFunctions() {
        OutwardTape tape = new OutwardTape();
        Check.put(tape, 1, 2, Check.COM);
        Check.putIll(tape);
        for (int function : new int[] {-1, 9, Integer.MAX_VALUE, Integer.MIN_VALUE}) {
            Check.throwing("unary", IllegalArgumentException.class, () -> tape.unary(function, 0));
            Check.throwing("unary of ILL", IllegalArgumentException.class, () -> tape.unary(function, 1));
            Check.throwing("unary of none", IllegalArgumentException.class, () -> tape.unary(function, 2));
        }
        for (int function : new int[] {-1, 8, 9, Integer.MAX_VALUE, Integer.MIN_VALUE}) {
            Check.throwing("binary", IllegalArgumentException.class, () -> tape.binary(function, 0, 0));
            Check.throwing("binary of ILL", IllegalArgumentException.class, () -> tape.binary(function, 0, 1));
            Check.throwing("binary of none", IllegalArgumentException.class, () -> tape.binary(function, 2, -1));
        }
        Check.due("filled", tape.filled(), 2);
    }

    private static void badCells() {
        OutwardTape tape = new OutwardTape();
        Check.put(tape, 1, 2, Check.COM);
        Check.putIll(tape);
        for (int x : NO_CELLS) {
            Check.throwing("unary of " + x, IndexOutOfBoundsException.class, () -> tape.unary(0, x));
            Check.throwing("binary of " + x, IndexOutOfBoundsException.class, () -> tape.binary(0, x, 0));
            Check.throwing("binary of " + x, IndexOutOfBoundsException.class, () -> tape.binary(7, 0, x));
            Check.throwing("binary of " + x, IndexOutOfBoundsException.class, () -> tape.binary(6, 1, x));
            Check.throwing("decoration of " + x, IndexOutOfBoundsException.class, () -> tape.decoration(x));
        }
        Check.due("filled", tape.filled(), 2);
    }

    private static void fullTape() {
        OutwardTape tape = new OutwardTape();
        Check.type(tape, "[1]");
        for (int i = 0; i < 40; i++) {
            Check.due("filled", tape.filled(), i);
            int kind = i % 4;
            int cell = kind == 0 ? tape.literal() : kind == 1 ? tape.bounds(0, 0, 4)
                : kind == 2 ? tape.unary(0, i - 1) : tape.binary(0, i - 1, 0);
            Check.due("the number of a new cell", cell, i);
        }
        Check.throwing("literal", IllegalStateException.class, tape::literal);
        Check.throwing("bounds", IllegalStateException.class, () -> tape.bounds(0, 0, 4));
        Check.throwing("bounds of none", IllegalStateException.class, () -> tape.bounds(Check.NAN, 0, 4));
        Check.throwing("unary", IllegalStateException.class, () -> tape.unary(0, 0));
        Check.throwing("binary", IllegalStateException.class, () -> tape.binary(0, 0, 39));
        Check.throwing("bounds, no decoration", IllegalArgumentException.class, () -> tape.bounds(0, 0, 0));
        Check.throwing("unary, no function", IllegalArgumentException.class, () -> tape.unary(9, 40));
        Check.throwing("unary, no cell", IndexOutOfBoundsException.class, () -> tape.unary(0, 40));
        Check.throwing("binary, no function", IllegalArgumentException.class, () -> tape.binary(8, 40, 0));
        Check.throwing("binary, no cell", IndexOutOfBoundsException.class, () -> tape.binary(0, 0, 40));
        Check.due("filled", tape.filled(), 40);
        Check.due("length", tape.length(), 3);
        Check.interval("the first", tape, 0, 1, 1, Check.COM);
        Check.interval("the last", tape, 39, 1, 1, Check.COM);
        tape.clear();
        Check.due("a literal after clear", tape.literal(), 0);
    }

    private static void absentCells() {
        OutwardTape tape = new OutwardTape();
        Check.put(tape, 1, 2, Check.COM);
        int ill = Check.putIll(tape);
        Check.due("decoration of ILL", tape.decoration(ill), Check.ILL);
        int[] none = {ill, -1, 2, 39, 40, Integer.MAX_VALUE, Integer.MIN_VALUE};
        for (int x : none) {
            Check.due("isEmpty of " + x, tape.isEmpty(x), false);
            Check.due("lower of " + x, tape.lower(x), Check.NAN);
            Check.due("upper of " + x, tape.upper(x), Check.NAN);
            for (int which = -1; which < 9; which++) {
                Check.due("relation of " + x, tape.relation(which, x, 0), false);
                Check.due("relation to " + x, tape.relation(which, 0, x), false);
                Check.due("relation of it to itself " + x, tape.relation(which, x, x), false);
                Check.due("number of " + x, tape.number(which, x), Check.NAN);
            }
            Check.due("clamp to " + x, tape.clamp(x, 0), Check.NAN);
        }
        Check.due("filled", tape.filled(), 2);
    }

    private static void illOperands() {
        for (int function = 0; function < 9; function++) {
            OutwardTape tape = new OutwardTape();
            int ill = Check.putIll(tape);
            Check.ill("unary " + function, tape, tape.unary(function, ill));
        }
        for (int function = 0; function < 8; function++) {
            OutwardTape tape = new OutwardTape();
            int ill = Check.putIll(tape);
            int one = Check.put(tape, 1, 1, Check.COM);
            int empty = Check.putEmpty(tape);
            Check.ill("binary " + function, tape, tape.binary(function, ill, one));
            Check.ill("binary " + function, tape, tape.binary(function, one, ill));
            Check.ill("binary " + function, tape, tape.binary(function, ill, ill));
            Check.ill("binary " + function, tape, tape.binary(function, empty, ill));
            Check.ill("binary " + function, tape, tape.binary(function, ill, empty));
        }
    }

    private static void emptyOperands() {
        for (int function = 0; function < 9; function++) {
            OutwardTape tape = new OutwardTape();
            Check.empty("unary " + function, tape, tape.unary(function, Check.putEmpty(tape)));
        }
        for (int function = 0; function < 8; function++) {
            OutwardTape tape = new OutwardTape();
            int empty = Check.putEmpty(tape);
            int one = Check.put(tape, 1, 2, Check.COM);
            int both = tape.binary(function, empty, empty);
            Check.empty("binary of empties " + function, tape, both);
            int left = tape.binary(function, empty, one);
            int right = tape.binary(function, one, empty);
            if (function == 7) {
                Check.interval("hull", tape, left, 1, 2, Check.TRV);
                Check.interval("hull", tape, right, 1, 2, Check.TRV);
            } else {
                Check.empty("binary " + function, tape, left);
                Check.empty("binary " + function, tape, right);
            }
        }
    }

    /** The least of the operands' decorations goes through, even where the function is at its best. */
    private static void decorations() {
        for (int a = Check.TRV; a <= Check.COM; a++) {
            for (int b = Check.TRV; b <= Check.COM; b++) {
                OutwardTape tape = new OutwardTape();
                Check.put(tape, 1, 2, a);
                Check.put(tape, 3, 4, b);
                for (int function = 0; function <= 5; function++) {
                    Check.due("binary " + function, tape.decoration(tape.binary(function, 0, 1)), Math.min(a, b));
                }
                Check.due("intersection", tape.decoration(tape.binary(6, 0, 0)), Check.TRV);
                Check.due("hull", tape.decoration(tape.binary(7, 0, 1)), Check.TRV);
                for (int function = 0; function <= 4; function++) {
                    Check.due("unary " + function, tape.decoration(tape.unary(function, 0)), a);
                }
                Check.due("sign", tape.decoration(tape.unary(8, 0)), a);
                Check.due("floor", tape.decoration(tape.unary(5, 0)), Math.min(a, Check.DEF));
            }
        }
    }
}
