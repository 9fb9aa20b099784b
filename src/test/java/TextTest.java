/** Promises 1 to 4 and 17: a new object, type, wipe, length, clear. */
public final class TextTest {
    public static void main(String[] args) {
        newObject();
        order();
        wrongCharacters();
        room();
        wiping();
        clearing();
        Check.finish();
    }

    private static void newObject() {
        OutwardTape tape = new OutwardTape();
        Check.due("filled of a new tape", tape.filled(), 0);
        Check.due("length of a new tape", tape.length(), 0);
        Check.ill("the empty text", tape, tape.literal());
    }

    /** Which characters the text has, and in which order, shows in what it says. */
    private static void order() {
        OutwardTape tape = new OutwardTape();
        Check.due("type of nothing", tape.type(0), true);
        Check.due("length after nothing", tape.length(), 0);
        Check.due("type", tape.type('[' << 24 | '1' << 16 | '2' << 8 | ','), true);
        Check.due("type with zeros between", tape.type('3' << 24 | '4'), true);
        Check.due("type with zeros around", tape.type('5' << 16), true);
        Check.due("type of one", tape.type(']'), true);
        Check.due("length", tape.length(), 8);
        Check.interval("the text [12,345]", tape, tape.literal(), 12, 345, Check.COM);
        Check.due("length after a literal", tape.length(), 8);
        Check.interval("the text once more", tape, tape.literal(), 12, 345, Check.COM);
    }

    private static void wrongCharacters() {
        for (int c = 1; c < 256; c++) {
            boolean fits = c >= 32 && c <= 126;
            OutwardTape fresh = new OutwardTape();
            fresh.type('[');
            Check.due("type of character " + c, fresh.type(c), fits);
            Check.due("length after character " + c, fresh.length(), fits ? 2 : 1);
        }
        int[] wrong = {-1, 0x7F, 0x5B313180, 0x805B3131, 0x5B1F3131, 0x5B317F31, 0xFF000000, 0x0000000A, 0x1F000000};
        OutwardTape tape = new OutwardTape();
        tape.type('[');
        for (int w : wrong) {
            Check.due("type of " + w, tape.type(w), false);
            Check.due("length after " + w, tape.length(), 1);
        }
        tape.type('2' << 8 | ']');
        Check.interval("the text [2] is what is left", tape, tape.literal(), 2, 2, Check.COM);
    }

    private static void room() {
        OutwardTape tape = new OutwardTape();
        Check.type(tape, "[" + " ".repeat(55) + "1");
        Check.due("length", tape.length(), 57);
        Check.due("four where three have room", tape.type('2' << 24 | '2' << 16 | '2' << 8 | ']'), false);
        Check.due("length", tape.length(), 57);
        Check.due("three where three have room", tape.type('2' << 16 | '2' << 8 | ']'), true);
        Check.due("length", tape.length(), 60);
        Check.due("one more", tape.type(' '), false);
        Check.due("none more", tape.type(0), true);
        Check.due("length", tape.length(), 60);
        Check.interval("a text of 60", tape, tape.literal(), 122, 122, Check.COM);
    }

    private static void wiping() {
        OutwardTape tape = new OutwardTape();
        Check.putText(tape, "[7]");
        tape.wipe();
        Check.due("length after wipe", tape.length(), 0);
        Check.due("cells after wipe", tape.filled(), 1);
        Check.ill("the wiped text", tape, tape.literal());
        Check.type(tape, "[8]");
        Check.interval("the text after wipe", tape, tape.literal(), 8, 8, Check.COM);
    }

    private static void clearing() {
        OutwardTape tape = new OutwardTape();
        Check.putText(tape, "[7]");
        Check.put(tape, 1, 2, Check.COM);
        tape.clear();
        Check.due("filled after clear", tape.filled(), 0);
        Check.due("length after clear", tape.length(), 3);
        Check.due("lower of a cell that is gone", tape.lower(0), Check.NAN);
        Check.due("upper of a cell that is gone", tape.upper(1), Check.NAN);
        Check.due("relation of cells that are gone", tape.relation(0, 0, 0), false);
        Check.throwing("decoration after clear", IndexOutOfBoundsException.class, () -> tape.decoration(0));
        Check.throwing("unary after clear", IndexOutOfBoundsException.class, () -> tape.unary(0, 0));
        Check.due("the next cell", tape.literal(), 0);
        Check.interval("the text stays", tape, 0, 7, 7, Check.COM);
    }
}
