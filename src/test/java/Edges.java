/** What the tests of the document's edges share: intervals written shortly, and what is due of them. */
abstract class Edges {
    static final double INF = Double.POSITIVE_INFINITY;
    static final double MAX = Double.MAX_VALUE;
    static final double MIN = Double.MIN_VALUE;
    static final Told EMPTY = Told.EMPTY;
    static final Told ILL = Told.ILL;
    /** Bits with e = 2047 and f not 0: the least and the greatest f, its highest bit alone, of both signs. */
    static final long[] NO_NUMBERS = {
        0x7FF0000000000001L, 0x7FF8000000000000L, 0x7FFFFFFFFFFFFFFFL,
        0xFFF0000000000001L, 0xFFF8000000000000L, 0xFFFFFFFFFFFFFFFFL
    };
    /** Numbers that no cell of any tape has: just outside, and those that a narrower type would fold inside. */
    static final int[] NEVER_A_CELL = {
        -1, 40, 41, -40, 255, 256, 65536, 1 << 24, Integer.MAX_VALUE, Integer.MIN_VALUE, Integer.MIN_VALUE + 1
    };

    static Told com(double lower, double upper) {
        return new Told(lower, upper, Check.COM);
    }

    static Told com(double point) {
        return com(point, point);
    }

    static Told dac(double lower, double upper) {
        return new Told(lower, upper, Check.DAC);
    }

    static Told def(double lower, double upper) {
        return new Told(lower, upper, Check.DEF);
    }

    static Told trv(double lower, double upper) {
        return new Told(lower, upper, Check.TRV);
    }

    static double above(double d) {
        return Math.nextUp(d);
    }

    static double below(double d) {
        return Math.nextDown(d);
    }

    static long bits(double d) {
        return Double.doubleToLongBits(d);
    }

    static double of(long bits) {
        return Double.longBitsToDouble(bits);
    }

    static void one(int function, Told x, Told due) {
        OutwardTape tape = new OutwardTape();
        x.putOn(tape);
        String what = "function " + function + " of " + x;
        Check.due(what + ": number of the cell", tape.unary(function, 0), 1);
        due.due(what, tape, 1);
        x.due(what + ": the operand stays", tape, 0);
        Check.due(what + ": filled", tape.filled(), 2);
    }

    static void two(int function, Told x, Told y, Told due) {
        OutwardTape tape = new OutwardTape();
        x.putOn(tape);
        y.putOn(tape);
        String what = "function " + function + " of " + x + " and " + y;
        Check.due(what + ": number of the cell", tape.binary(function, 0, 1), 2);
        due.due(what, tape, 2);
        x.due(what + ": the first operand stays", tape, 0);
        y.due(what + ": the second operand stays", tape, 1);
        Check.due(what + ": filled", tape.filled(), 3);
    }

    static void literal(String text, Told due) {
        OutwardTape tape = new OutwardTape();
        Check.type(tape, text);
        String what = "literal " + text;
        Check.due(what + ": number of the cell", tape.literal(), 0);
        due.due(what, tape, 0);
        Check.due(what + ": the text stays", tape.length(), text.length());
        Check.due(what + ": number of the second cell", tape.literal(), 1);
        due.due(what + ", read again", tape, 1);
    }

    /** A tape with so many cells, all of them different, and the text [17]. */
    static OutwardTape tapeOf(int cells) {
        OutwardTape tape = new OutwardTape();
        Check.type(tape, "[17]");
        for (int i = 0; i < cells; i++) {
            Check.due("number of a new cell", Check.put(tape, i, i + 0.5, 1 + i % 4), i);
        }
        return tape;
    }

    /** All that can be seen of a tape without a change: at most 168 calls. */
    static String seen(OutwardTape tape) {
        StringBuilder all = new StringBuilder();
        int cells = tape.filled();
        all.append(cells).append(" cells, ").append(tape.length()).append(" characters");
        for (int i = 0; i < cells; i++) {
            all.append("; ").append(tape.decoration(i)).append(' ').append(tape.isEmpty(i));
            all.append(' ').append(tape.lower(i)).append(' ').append(tape.upper(i));
        }
        return all.toString();
    }

    static void same(String what, String got, String want) {
        if (!got.equals(want)) {
            System.out.println(what + ":\n  seen " + got + "\n  due  " + want);
        }
        Check.due(what, got.equals(want), true);
    }
}
