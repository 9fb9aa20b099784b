/** Promises 1 to 4 and 17, and of the terms: "THE TEXT is a row of at most 60 characters (32 .. 126)." */
public final class EdgesOfTextTest extends Edges {
    private static final int ROOM = 60;

    public static void main(String[] args) {
        aNewObject();
        objectsApart();
        bytesOtherThanZero();
        noByteAtAll();
        everyCharacter();
        wrongByteAtEveryPlace();
        roomForAll();
        wrongAndWithoutRoom();
        lengths();
        wiping();
        clearing();
        cellsKeepWhatTheTextSaid();
        lastCallOfAnObject();
        Check.finish();
    }

    private static int word(int first, int second, int third, int fourth) {
        return first << 24 | second << 16 | third << 8 | fourth;
    }

    /** "No cells, an empty text." */
    private static void aNewObject() {
        OutwardTape tape = new OutwardTape();
        Check.due("length", tape.length(), 0);
        Check.due("filled", tape.filled(), 0);
        for (int x : new int[] {0, 1, 39, 40, -1}) {
            Check.throwing("decoration", IndexOutOfBoundsException.class, () -> tape.decoration(x));
            Check.due("isEmpty", tape.isEmpty(x), false);
            Check.due("lower", tape.lower(x), Check.NAN);
            Check.due("upper", tape.upper(x), Check.NAN);
            Check.due("clamp", tape.clamp(x, 0), Check.NAN);
            for (int which = 0; which < 8; which++) {
                Check.due("relation", tape.relation(which, x, x), false);
                Check.due("number", tape.number(which, x), Check.NAN);
            }
        }
        Check.due("the first cell", tape.literal(), 0);
        Check.ill("the empty text is no literal", tape, 0);
        Check.due("filled", tape.filled(), 1);
    }

    private static void objectsApart() {
        OutwardTape first = tapeOf(3);
        OutwardTape second = new OutwardTape();
        Check.due("filled of the second", second.filled(), 0);
        Check.due("length of the second", second.length(), 0);
        Check.type(second, "[5]");
        com(5).due("the second's text", second, second.literal());
        second.clear();
        second.wipe();
        Check.due("filled of the first", first.filled(), 3);
        com(17).due("the first's text", first, first.literal());
    }

    /** "Appends characters to the text: the bytes of w other than 0, the highest first." */
    private static void bytesOtherThanZero() {
        for (int places = 0; places < 16; places++) {
            int w = 0;
            int due = 9;
            for (int i = 0; i < 4; i++) {
                if ((places >> (3 - i) & 1) != 0) {
                    w |= ('1' + i) << (24 - 8 * i);
                    due = 10 * due + 1 + i;
                }
            }
            OutwardTape tape = new OutwardTape();
            Check.type(tape, "[9");
            Check.due("type " + Integer.toHexString(w), tape.type(w), true);
            Check.due("length", tape.length(), 2 + Integer.bitCount(places));
            tape.type(']');
            com(due).due("type " + Integer.toHexString(w), tape, tape.literal());
        }
    }

    private static void noByteAtAll() {
        for (int many = 0; many <= ROOM; many++) {
            OutwardTape tape = new OutwardTape();
            Check.type(tape, " ".repeat(many));
            Check.due("type of nothing behind " + many, tape.type(0), true);
            Check.due("length after nothing", tape.length(), many);
        }
    }

    /** "(32 .. 126)": every byte, alone in every place. */
    private static void everyCharacter() {
        for (int c = 1; c < 256; c++) {
            boolean fits = c >= 32 && c <= 126;
            for (int shift = 0; shift < 32; shift += 8) {
                OutwardTape tape = new OutwardTape();
                Check.due("type of byte " + c, tape.type(c << shift), fits);
                Check.due("length after byte " + c, tape.length(), fits ? 1 : 0);
            }
        }
    }

    /** "False, changing nothing, when one of these is not 32 .. 126": not even those before it are appended. */
    private static void wrongByteAtEveryPlace() {
        int[] wrong = {1, 10, 31, 127, 128, 160, 255};
        for (int shift = 0; shift < 32; shift += 8) {
            for (int c : wrong) {
                int others = word('7', '7', '7', '7') & ~(255 << shift);
                for (int w : new int[] {others | c << shift, (others & 0xFF0000FF) | c << shift}) {
                    OutwardTape tape = new OutwardTape();
                    Check.type(tape, "[4");
                    Check.due("type " + Integer.toHexString(w), tape.type(w), false);
                    Check.due("length after " + Integer.toHexString(w), tape.length(), 2);
                    tape.type(word(0, 0, '2', ']'));
                    com(42).due("the text after " + Integer.toHexString(w), tape, tape.literal());
                }
            }
        }
    }

    /** "or there is no room for all": all are appended or none, for every number of them near the end. */
    private static void roomForAll() {
        for (int many = ROOM - 5; many <= ROOM; many++) {
            for (int more = 1; more <= 4; more++) {
                OutwardTape tape = new OutwardTape();
                Check.type(tape, "[" + " ".repeat(many - 2) + "5");
                String rest = "7".repeat(more - 1) + "]";
                int w = 0;
                for (int i = 0; i < more; i++) {
                    w = w << 8 | rest.charAt(i);
                }
                boolean fits = many + more <= ROOM;
                Check.due("type of " + more + " behind " + many, tape.type(w), fits);
                Check.due("length", tape.length(), fits ? many + more : many);
                if (fits) {
                    com(Double.parseDouble("5" + rest.replace("]", ""))).due("the text", tape, tape.literal());
                } else {
                    Check.due("one more", tape.type(']'), many < ROOM);
                    (many < ROOM ? com(5) : ILL).due("the text", tape, tape.literal());
                }
            }
        }
    }

    private static void wrongAndWithoutRoom() {
        OutwardTape tape = new OutwardTape();
        Check.type(tape, "[" + " ".repeat(57) + "1");
        Check.due("no room and a wrong byte", tape.type(word('2', '2', 31, '2')), false);
        Check.due("no room for two", tape.type(word(0, '2', 0, ']')), false);
        Check.due("room for one that is wrong", tape.type(127), false);
        Check.due("length", tape.length(), 59);
        Check.due("room for one", tape.type(word(']', 0, 0, 0)), true);
        com(1).due("a text of 60", tape, tape.literal());
    }

    /** "The number of characters of the text." */
    private static void lengths() {
        OutwardTape tape = new OutwardTape();
        for (int many = 0; many <= ROOM; many++) {
            Check.due("length", tape.length(), many);
            Check.due("type of one behind " + many, tape.type(' '), many < ROOM);
        }
        Check.due("length", tape.length(), ROOM);
        Check.due("filled", tape.filled(), 0);
    }

    /** "The text becomes empty." Nothing else does. */
    private static void wiping() {
        for (int many : new int[] {0, 1, 4, 59, 60}) {
            OutwardTape tape = tapeOf(5);
            tape.wipe();
            String cells = seen(tape);
            Check.type(tape, "]".repeat(many));
            tape.wipe();
            Check.due("length after wipe", tape.length(), 0);
            same("cells after wipe", seen(tape), cells);
            ILL.due("the empty text", tape, tape.literal());
            Check.type(tape, "[" + " ".repeat(57) + "2]");
            Check.due("a wiped text has room for 60", tape.length(), 60);
            com(2).due("the new text", tape, tape.literal());
        }
    }

    /** "All cells are gone; the text stays." */
    private static void clearing() {
        for (int cells : new int[] {0, 1, 2, 39, 40}) {
            OutwardTape tape = tapeOf(cells);
            tape.clear();
            Check.due("filled after clear", tape.filled(), 0);
            Check.due("length after clear", tape.length(), 4);
            for (int x = 0; x < cells; x++) {
                Check.due("lower of a cell that is gone", tape.lower(x), Check.NAN);
                Check.due("upper of a cell that is gone", tape.upper(x), Check.NAN);
                Check.due("number of a cell that is gone", tape.number(1, x), Check.NAN);
                Check.due("clamp to a cell that is gone", tape.clamp(x, 0), Check.NAN);
                Check.due("relation of a cell that is gone", tape.relation(0, x, x), false);
            }
            Check.due("the next cell", tape.literal(), 0);
            com(17).due("the text stays", tape, 0);
            for (int x = 1; x < 40; x++) {
                Check.due("room for 40 again", tape.literal(), x);
            }
            Check.throwing("the 41st", IllegalStateException.class, tape::literal);
        }
        OutwardTape tape = new OutwardTape();
        EMPTY.putOn(tape);
        tape.clear();
        Check.due("isEmpty of a cell that is gone", tape.isEmpty(0), false);
        tape.clear();
        Check.due("filled after clear twice", tape.filled(), 0);
    }

    private static void cellsKeepWhatTheTextSaid() {
        OutwardTape tape = new OutwardTape();
        Check.type(tape, "[1");
        ILL.due("[1", tape, tape.literal());
        Check.type(tape, "2]");
        com(12).due("[12]", tape, tape.literal());
        Check.type(tape, "_trv");
        trv(12, 12).due("[12]_trv", tape, tape.literal());
        tape.wipe();
        ILL.due("nothing", tape, tape.literal());
        ILL.due("cell 0", tape, 0);
        com(12).due("cell 1", tape, 1);
        trv(12, 12).due("cell 2", tape, 2);
    }

    /** "An object is used for at most 512 calls": the 512th still answers as the first did. */
    private static void lastCallOfAnObject() {
        OutwardTape tape = new OutwardTape();
        int calls = 0;
        for (int round = 0; calls + 45 < 511; round++) {
            tape.wipe();
            tape.type(word('[', '1', '0' + round % 10, ']'));
            for (int x = 0; x < 40; x++) {
                Check.due("literal", x % 2 == 0 ? tape.literal() : tape.unary(2, x - 1), x);
            }
            Check.due("upper", tape.upper(38), bits(10 + round % 10));
            tape.clear();
            calls += 44;
        }
        int last = tape.literal();
        calls++;
        for (; calls < 511; calls++) {
            Check.due("filled", tape.filled(), 1);
        }
        Check.due("the 512th call", tape.upper(last), bits(10 + 10 % 10));
    }
}
