import java.io.IOException;
import java.nio.file.Files;
import java.nio.file.Path;
import java.util.ArrayList;
import java.util.List;
import java.util.function.DoubleBinaryOperator;
import java.util.function.DoubleUnaryOperator;

/** README.md's tables of functions, relations and numbers: that what stands at a number is what is done there. */
public final class ReadmeTablesTest extends Edges {
    private static final double[] POINTS = {-4, -0.25, 0.25, 4};

    /** A relation of the intervals from a to b and from c to d. */
    private interface Relation {
        boolean holds(int a, int b, int c, int d);
    }

    private static String text;

    public static void main(String[] args) throws IOException {
        text = Files.readString(Path.of("README.md"));
        functionsOfOneOperand();
        functionsOfTwoOperands();
        relations();
        numbers();
        Check.finish();
    }

    /** The words at a number in one of the two columns of the table that has this name above it. */
    private static List<String> column(String heading) {
        List<String> words = new ArrayList<>();
        int column = 0;
        for (String line : text.split("\n")) {
            String[] parts = line.split(" *\\| *");
            if (line.startsWith("| |")) {
                column = parts.length > 2 && parts[2].equals(heading) ? 2
                    : parts.length > 3 && parts[3].equals(heading) ? 3 : 0;
            } else if (!line.startsWith("|")) {
                column = 0;
            } else if (column > 0 && column < parts.length && parts[1].equals(Integer.toString(words.size()))) {
                words.add(parts[column]);
            }
        }
        return words;
    }

    private static int numberOf(String heading, String words) {
        int number = column(heading).indexOf(words);
        Check.due("README.md has " + words + " under " + heading, number >= 0, true);
        return number;
    }

    private static void functionsOfOneOperand() {
        Check.due("functions of one operand", column("`unary`").size(), 9);
        unary("minus x", x -> -x);
        unary("the absolute value", Math::abs);
        unary("the square", x -> x * x);
        unary("the square root", Math::sqrt);
        unary("one divided by x", x -> 1 / x);
        unary("the greatest whole number not greater", Math::floor);
        unary("the least whole number not less", Math::ceil);
        unary("the whole part towards 0", x -> (long) x);
        unary("the sign", Math::signum);
    }

    private static void unary(String words, DoubleUnaryOperator due) {
        int function = numberOf("`unary`", words);
        for (double x : POINTS) {
            double value = due.applyAsDouble(x);
            if (function >= 0) {
                one(function, com(x), Double.isNaN(value) ? EMPTY : com(value));
            }
        }
    }

    private static void functionsOfTwoOperands() {
        Check.due("functions of two operands", column("`binary`").size(), 8);
        binary("the sum", Double::sum);
        binary("the difference", (x, y) -> x - y);
        binary("the product", (x, y) -> x * y);
        binary("the quotient", (x, y) -> x / y);
        binary("the less", Math::min);
        binary("the greater", Math::max);
        two(numberOf("`binary`", "the intersection"), com(1, 3), com(2, 4), trv(2, 3));
        two(numberOf("`binary`", "the tightest interval that has both in it"), com(1, 3), com(2, 4), trv(1, 4));
    }

    private static void binary(String words, DoubleBinaryOperator due) {
        int function = numberOf("`binary`", words);
        for (double x : POINTS) {
            for (double y : POINTS) {
                if (function >= 0) {
                    two(function, com(x), com(y), com(due.applyAsDouble(x, y)));
                }
            }
        }
    }

    private static void relations() {
        Check.due("relations", column("`relation`").size(), 8);
        relation("equal", (a, b, c, d) -> a == c && b == d);
        relation("subset", (a, b, c, d) -> c <= a && b <= d);
        relation("interior", (a, b, c, d) -> c < a && b < d);
        relation("less", (a, b, c, d) -> a <= c && b <= d);
        relation("precedes", (a, b, c, d) -> b <= c);
        relation("strictly less", (a, b, c, d) -> a < c && b < d);
        relation("strictly precedes", (a, b, c, d) -> b < c);
        relation("disjoint", (a, b, c, d) -> b < c || d < a);
    }

    /** All pairs of the ten intervals with bounds 0 to 3. */
    private static void relation(String words, Relation due) {
        int which = numberOf("`relation`", words);
        OutwardTape tape = new OutwardTape();
        for (int i = 0; i < 16; i++) {
            for (int k = 0; k < 16; k++) {
                int a = i / 4;
                int b = i % 4;
                int c = k / 4;
                int d = k % 4;
                if (a <= b && c <= d) {
                    tape.clear();
                    int x = Check.put(tape, a, b, Check.COM);
                    int y = Check.put(tape, c, d, Check.COM);
                    String what = "[" + a + ", " + b + "] " + words + " [" + c + ", " + d + "]";
                    Check.due(what, tape.relation(which, x, y), due.holds(a, b, c, d));
                }
            }
        }
    }

    private static void numbers() {
        Check.due("numbers", column("`number`").stream().filter(words -> !words.isEmpty()).count(), 4);
        number("the width", 5, 2, 3);
        number("the magnitude", 4, 4, 4);
        number("the mignitude", 0, 2, 1);
        number("the middle", 1.5, 3, -2.5);
    }

    /** Of the intervals from -1 to 4, from 2 to 4 and from -4 to -1. */
    private static void number(String words, double first, double second, double third) {
        OutwardTape tape = new OutwardTape();
        Check.put(tape, -1, 4, Check.COM);
        Check.put(tape, 2, 4, Check.COM);
        Check.put(tape, -4, -1, Check.COM);
        int which = numberOf("`number`", words);
        Check.due(words + " of [-1, 4]", tape.number(which, 0), bits(first));
        Check.due(words + " of [2, 4]", tape.number(which, 1), bits(second));
        Check.due(words + " of [-4, -1]", tape.number(which, 2), bits(third));
    }
}
