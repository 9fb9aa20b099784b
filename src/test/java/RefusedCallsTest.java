/**
 * Promises 5 to 8 and 10: "A call that throws changes nothing. Where several exceptions of a call fit, the one
 * named first is thrown." Every refusal that the document names, at its edge, one below and one above it.
 */
public final class RefusedCallsTest extends Edges {
    private static final int FULL = 40;
    private static final int[] NO_DECORATIONS = {0, 5, -1, 6, 256 + 4, Integer.MAX_VALUE, Integer.MIN_VALUE};
    private static final int[] NO_FUNCTIONS_OF_ONE = {-1, 9, 10, 256, Integer.MAX_VALUE, Integer.MIN_VALUE};
    private static final int[] NO_FUNCTIONS_OF_TWO = {-1, 8, 9, 256, Integer.MAX_VALUE, Integer.MIN_VALUE};

    public static void main(String[] args) {
        literalOnAFullTape();
        boundsOnAFullTape();
        unaryOnAFullTape();
        binaryOnAFullTape();
        decorationsOfBounds();
        functionsOfOne();
        functionsOfTwo();
        cellsOfUnary();
        cellsOfBinary();
        cellsOfDecoration();
        cellsThatAreGone();
        firstNamedOfBounds();
        firstNamedOfUnary();
        firstNamedOfBinary();
        Check.finish();
    }

    /** A call on a tape, whose exception is looked for. */
    interface TapeCall {
        long on(OutwardTape tape);
    }

    /** The call throws, and then neither the cells nor the text nor the number of the next cell have changed. */
    private static void refused(String what, int cells, Class<? extends RuntimeException> due, TapeCall call) {
        OutwardTape tape = tapeOf(cells);
        String before = seen(tape);
        Check.throwing(what, due, () -> call.on(tape));
        same(what + " changes nothing", seen(tape), before);
        if (cells == FULL) {
            tape.clear();
            com(17).due(what + " leaves the text", tape, tape.literal());
        } else {
            Check.due(what + " takes no number", tape.literal(), cells);
            com(17).due(what + " leaves the text", tape, cells);
        }
    }

    private static void noRoom(String what, int cells, TapeCall call) {
        refused(what, cells, IllegalStateException.class, call);
    }

    private static void noArgument(String what, int cells, TapeCall call) {
        refused(what, cells, IllegalArgumentException.class, call);
    }

    private static void noCell(String what, int cells, TapeCall call) {
        refused(what, cells, IndexOutOfBoundsException.class, call);
    }

    /** The call makes cell 38 of 38 and cell 39 of 39. */
    private static void hasRoom(String what, TapeCall call) {
        for (int cells = FULL - 2; cells < FULL; cells++) {
            OutwardTape tape = tapeOf(cells);
            Check.due(what + " with " + cells + " cells", call.on(tape), cells);
            Check.due(what + ": filled", tape.filled(), cells + 1);
            Check.due(what + ": the cell is there", tape.decoration(cells) >= Check.TRV, true);
        }
    }

    /** Promise 5: "IllegalStateException when there are 40 cells." */
    private static void literalOnAFullTape() {
        hasRoom("literal", OutwardTape::literal);
        noRoom("literal", FULL, OutwardTape::literal);
        OutwardTape tape = tapeOf(FULL);
        tape.wipe();
        Check.type(tape, "no literal");
        Check.throwing("literal of no literal", IllegalStateException.class, tape::literal);
        Check.due("the text", tape.length(), 10);
        Check.due("the cells", tape.filled(), FULL);
    }

    /** Promise 6: "IllegalStateException when there are 40 cells." */
    private static void boundsOnAFullTape() {
        hasRoom("bounds", tape -> tape.bounds(bits(1), bits(2), Check.COM));
        noRoom("bounds", FULL, tape -> tape.bounds(bits(1), bits(2), Check.COM));
        noRoom("bounds that are none", FULL, tape -> tape.bounds(bits(2), bits(1), Check.TRV));
        noRoom("bounds that are no numbers", FULL, tape -> tape.bounds(Check.NAN, Check.NAN, Check.TRV));
    }

    /** Promise 7: "IllegalStateException when there are 40 cells." */
    private static void unaryOnAFullTape() {
        for (int f = 0; f <= 8; f++) {
            int function = f;
            hasRoom("unary", tape -> tape.unary(function, 37));
            noRoom("unary", FULL, tape -> tape.unary(function, 39));
        }
    }

    /** Promise 8: "IllegalStateException when there are 40 cells." */
    private static void binaryOnAFullTape() {
        for (int f = 0; f <= 7; f++) {
            int function = f;
            hasRoom("binary", tape -> tape.binary(function, 37, 36));
            noRoom("binary", FULL, tape -> tape.binary(function, 39, 0));
        }
    }

    /** Promise 6: "IllegalArgumentException when the decoration is not 1 .. 4." */
    private static void decorationsOfBounds() {
        for (int mark = Check.TRV; mark <= Check.COM; mark++) {
            OutwardTape tape = tapeOf(3);
            Check.due("bounds with decoration " + mark, Check.put(tape, 5, 6, mark), 3);
            Check.interval("bounds with decoration " + mark, tape, 3, 5, 6, mark);
        }
        for (int mark : NO_DECORATIONS) {
            noArgument("bounds with decoration " + mark, 3, tape -> tape.bounds(bits(1), bits(2), mark));
            noArgument("no bounds with decoration " + mark, 3, tape -> tape.bounds(Check.NAN, bits(2), mark));
            noArgument("turned bounds with decoration " + mark, 3, tape -> tape.bounds(bits(2), bits(1), mark));
            noArgument("bounds with decoration " + mark, 0, tape -> tape.bounds(bits(1), bits(2), mark));
        }
    }

    /** Promise 7: "IllegalArgumentException when there is no such function." */
    private static void functionsOfOne() {
        for (int function : NO_FUNCTIONS_OF_ONE) {
            noArgument("unary " + function, 3, tape -> tape.unary(function, 0));
            noArgument("unary " + function, 1, tape -> tape.unary(function, 0));
            OutwardTape tape = new OutwardTape();
            ILL.putOn(tape);
            EMPTY.putOn(tape);
            Check.throwing("unary of ILL", IllegalArgumentException.class, () -> tape.unary(function, 0));
            Check.throwing("unary of empty", IllegalArgumentException.class, () -> tape.unary(function, 1));
            Check.due("filled", tape.filled(), 2);
        }
        for (int function = 0; function <= 8; function++) {
            Check.due("unary " + function, tapeOf(3).unary(function, 0), 3);
        }
    }

    /** Promise 8: "IllegalArgumentException when there is no such function." */
    private static void functionsOfTwo() {
        for (int function : NO_FUNCTIONS_OF_TWO) {
            noArgument("binary " + function, 3, tape -> tape.binary(function, 0, 1));
            noArgument("binary " + function, 1, tape -> tape.binary(function, 0, 0));
            OutwardTape tape = new OutwardTape();
            ILL.putOn(tape);
            EMPTY.putOn(tape);
            Check.throwing("binary of ILL", IllegalArgumentException.class, () -> tape.binary(function, 0, 1));
            Check.throwing("binary of empty", IllegalArgumentException.class, () -> tape.binary(function, 1, 1));
            Check.due("filled", tape.filled(), 2);
        }
        for (int function = 0; function <= 7; function++) {
            Check.due("binary " + function, tapeOf(3).binary(function, 0, 1), 3);
        }
    }

    /** Promise 7: "IndexOutOfBoundsException when there is no such cell." */
    private static void cellsOfUnary() {
        for (int cells : new int[] {0, 1, 2, 39}) {
            for (int f = 0; f <= 8; f++) {
                int function = f;
                noCell("unary of cell " + cells, cells, tape -> tape.unary(function, cells));
                noCell("unary of cell -1", cells, tape -> tape.unary(function, -1));
            }
            if (cells > 0) {
                Check.due("unary of the last cell", tapeOf(cells).unary(0, cells - 1), cells);
                Check.due("unary of the first cell", tapeOf(cells).unary(0, 0), cells);
            }
        }
        for (int x : NEVER_A_CELL) {
            noCell("unary of cell " + x, 5, tape -> tape.unary(0, x));
        }
    }

    /** Promise 8: "IndexOutOfBoundsException when one of the cells is not there." */
    private static void cellsOfBinary() {
        for (int cells : new int[] {1, 2, 39}) {
            for (int f = 0; f <= 7; f++) {
                int function = f;
                noCell("binary, first not there", cells, tape -> tape.binary(function, cells, 0));
                noCell("binary, second not there", cells, tape -> tape.binary(function, 0, cells));
                noCell("binary, neither there", cells, tape -> tape.binary(function, cells, cells));
                noCell("binary, first -1", cells, tape -> tape.binary(function, -1, cells - 1));
                noCell("binary, second -1", cells, tape -> tape.binary(function, cells - 1, -1));
            }
            Check.due("binary of the last cell", tapeOf(cells).binary(0, cells - 1, 0), cells);
            Check.due("binary by the last cell", tapeOf(cells).binary(0, 0, cells - 1), cells);
        }
        noCell("binary on a tape without cells", 0, tape -> tape.binary(0, 0, 0));
        for (int x : NEVER_A_CELL) {
            noCell("binary of cell " + x, 5, tape -> tape.binary(0, x, 4));
            noCell("binary by cell " + x, 5, tape -> tape.binary(0, 4, x));
        }
    }

    /** Promise 10: "IndexOutOfBoundsException when there is no such cell." */
    private static void cellsOfDecoration() {
        for (int cells : new int[] {0, 1, 2, 39, 40}) {
            noCell("decoration of cell " + cells, cells, tape -> tape.decoration(cells));
            noCell("decoration of cell -1", cells, tape -> tape.decoration(-1));
            if (cells > 0) {
                Check.due("decoration of the last cell", tapeOf(cells).decoration(cells - 1), 1 + (cells - 1) % 4);
            }
        }
        for (int x : NEVER_A_CELL) {
            noCell("decoration of cell " + x, 5, tape -> tape.decoration(x));
        }
    }

    /** Promise 17: "All cells are gone", so that calls on them are refused. */
    private static void cellsThatAreGone() {
        OutwardTape tape = tapeOf(FULL);
        tape.clear();
        for (int x : new int[] {0, 1, 39}) {
            Check.throwing("decoration", IndexOutOfBoundsException.class, () -> tape.decoration(x));
            Check.throwing("unary", IndexOutOfBoundsException.class, () -> tape.unary(0, x));
            Check.throwing("binary", IndexOutOfBoundsException.class, () -> tape.binary(0, x, x));
        }
        com(1, 2).putOn(tape);
        Check.throwing("decoration", IndexOutOfBoundsException.class, () -> tape.decoration(1));
        Check.throwing("unary", IndexOutOfBoundsException.class, () -> tape.unary(0, 1));
        Check.throwing("binary", IndexOutOfBoundsException.class, () -> tape.binary(0, 0, 1));
        Check.throwing("binary", IndexOutOfBoundsException.class, () -> tape.binary(0, 1, 0));
        Check.due("filled", tape.filled(), 1);
    }

    private static void firstNamedOfBounds() {
        for (int mark : NO_DECORATIONS) {
            noArgument("bounds, no decoration and full", FULL, tape -> tape.bounds(bits(1), bits(2), mark));
        }
    }

    private static void firstNamedOfUnary() {
        for (int function : NO_FUNCTIONS_OF_ONE) {
            noArgument("unary, no function and no cell", 5, tape -> tape.unary(function, 5));
            noArgument("unary, no function and full", FULL, tape -> tape.unary(function, 0));
            noArgument("unary, no function, no cell and full", FULL, tape -> tape.unary(function, FULL));
        }
        for (int x : NEVER_A_CELL) {
            noCell("unary, no cell and full", FULL, tape -> tape.unary(8, x));
            noArgument("unary, no function and no cell", 5, tape -> tape.unary(9, x));
        }
    }

    private static void firstNamedOfBinary() {
        for (int function : NO_FUNCTIONS_OF_TWO) {
            noArgument("binary, no function and no first", 5, tape -> tape.binary(function, 5, 0));
            noArgument("binary, no function and no second", 5, tape -> tape.binary(function, 0, -1));
            noArgument("binary, no function and full", FULL, tape -> tape.binary(function, 0, 0));
            noArgument("binary, no function, no cell and full", FULL, tape -> tape.binary(function, 0, FULL));
        }
        for (int x : NEVER_A_CELL) {
            noCell("binary, no first and full", FULL, tape -> tape.binary(7, x, 0));
            noCell("binary, no second and full", FULL, tape -> tape.binary(7, 0, x));
            noArgument("binary, no function and no cell", 5, tape -> tape.binary(8, x, x));
        }
    }
}
