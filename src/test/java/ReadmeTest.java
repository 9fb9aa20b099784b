import java.io.IOException;
import java.lang.invoke.MethodHandles;
import java.lang.reflect.Method;
import java.lang.reflect.Modifier;
import java.math.BigDecimal;
import java.nio.file.Files;
import java.nio.file.Path;
import java.util.Iterator;
import java.util.List;
import java.util.Set;
import java.util.TreeSet;
import java.util.stream.Stream;
import javax.tools.ToolProvider;

/** What README.md shows: that its calls answer as it says, and that it says what the document asks. */
public final class ReadmeTest extends Edges {
    private static final String ARGUMENT = "throws IllegalArgumentException";
    private static final String INDEX = "throws IndexOutOfBoundsException";
    private static final String STATE = "throws IllegalStateException";
    private static final long INFINITE = Check.INF;
    private static final long NO_NUMBER = Check.NAN;

    public static void main(String[] args) throws Exception {
        Readme readme = new Readme(Path.of("README.md"));
        same("lines of README.md that are no example's", readme.notUnderstood.toString(), "[]");
        theCallsAnswerAsShown(readme);
        theDocumentAsksForThis(readme.examples);
        theWholeFaceIsShown(readme.examples);
        theTextsAreReadAsTold(readme.text);
        theTestsAreTold(readme.text);
        Check.finish();
    }

    /** The examples are compiled as they stand: what would not compile for a reader fails here too. */
    private static void theCallsAnswerAsShown(Readme readme) throws IOException, ReflectiveOperationException {
        Path directory = Files.createTempDirectory("readme");
        Path source = directory.resolve("ReadmeShown.java");
        Path compiled = directory.resolve("ReadmeShown.class");
        try {
            Files.writeString(source, readme.asClass("ReadmeShown"));
            int failed = ToolProvider.getSystemJavaCompiler().run(null, null, null, "--release", "17",
                "-cp", System.getProperty("java.class.path"), "-d", directory.toString(), source.toString());
            Check.due("README.md's examples compile", failed, 0);
            if (failed == 0) {
                Class<?> shown = MethodHandles.lookup().defineClass(Files.readAllBytes(compiled));
                shown.getDeclaredMethod("run").invoke(null);
            }
        } finally {
            Files.deleteIfExists(compiled);
            Files.deleteIfExists(source);
            Files.delete(directory);
        }
    }

    private static void theDocumentAsksForThis(List<List<Readme.Shown>> examples) {
        Check.due("README.md's examples", examples.size(), 4);
        if (examples.size() == 4) {
            fromATextToACell(answersOf(examples.get(0)));
            functionsAndDecorations(answersOf(examples.get(1)));
            relationsAndNumbers(answersOf(examples.get(2)));
            whatIsRefused(answersOf(examples.get(3)));
        }
    }

    private static void fromATextToACell(Iterator<Readme.Shown> said) {
        long tenthDown = bits(Reference.decimal(new BigDecimal("0.1"), false));
        long fifthUp = bits(Reference.decimal(new BigDecimal("0.2"), true));
        // [0.1 ,0.2 ] are 4, 4 and 1 characters.
        all(said, "type", 1L, 1L, 1L);
        all(said, "length", 9L);
        all(said, "literal", 0L);
        all(said, "lower", tenthDown);
        all(said, "upper", fifthUp);
        all(said, "decoration", 4L);
        all(said, "bounds", 1L);
        all(said, "binary", 2L);
        all(said, "lower", bits(of(tenthDown) / 2));
        all(said, "upper", fifthUp);
        all(said, "type", 1L, 1L);
        all(said, "literal", 3L);
        all(said, "lower", bits(-INF));
        all(said, "upper", INFINITE);
        all(said, "decoration", 3L);
        all(said, "filled", 4L);
        Check.due("README.md says more of texts", said.hasNext(), false);
    }

    private static void functionsAndDecorations(Iterator<Readme.Shown> said) {
        all(said, "bounds", 0L);
        all(said, "unary", 1L);
        all(said, "lower", bits(-0.0));
        all(said, "upper", bits(2));
        all(said, "decoration", 1L);
        all(said, "unary", 2L);
        all(said, "decoration", 2L);
        all(said, "bounds", 3L);
        all(said, "binary", 4L);
        all(said, "upper", INFINITE);
        all(said, "decoration", 3L);
        all(said, "bounds", 5L);
        all(said, "binary", 6L);
        all(said, "isEmpty", 1L);
        all(said, "lower", INFINITE);
        all(said, "upper", bits(-INF));
        all(said, "decoration", 1L);
        all(said, "bounds", 7L);
        all(said, "decoration", 0L);
        all(said, "upper", NO_NUMBER);
        all(said, "binary", 8L);
        all(said, "decoration", 0L);
        Check.due("README.md says more of functions", said.hasNext(), false);
    }

    private static void relationsAndNumbers(Iterator<Readme.Shown> said) {
        all(said, "bounds", 0L, 1L);
        all(said, "relation", 1L, 0L, 0L);
        all(said, "number", bits(2), bits(4), bits(2), bits(3));
        all(said, "clamp", bits(1.5), bits(2));
        all(said, "filled", 0L);
        all(said, "isEmpty", 0L);
        all(said, "clamp", NO_NUMBER);
        Check.due("README.md says more of numbers", said.hasNext(), false);
    }

    private static void whatIsRefused(Iterator<Readme.Shown> said) {
        all(said, "type", 0L);
        all(said, "length", 0L);
        all(said, "literal", 0L);
        all(said, "decoration", 0L);
        all(said, "bounds", ARGUMENT);
        all(said, "unary", ARGUMENT, INDEX);
        all(said, "decoration", INDEX);
        all(said, "lower", NO_NUMBER);
        all(said, "relation", 0L);
        all(said, "number", NO_NUMBER);
        all(said, "filled", 1L);
        all(said, "literal", STATE);
        all(said, "binary", INDEX, STATE);
        all(said, "filled", 40L);
        Check.due("README.md says more of what is refused", said.hasNext(), false);
    }

    private static Iterator<Readme.Shown> answersOf(List<Readme.Shown> example) {
        return example.stream().filter(shown -> shown.said() != null).iterator();
    }

    /** That README.md goes on with calls of this method, and says these answers. */
    private static void all(Iterator<Readme.Shown> said, String method, Object... dues) {
        for (Object due : dues) {
            Readme.Shown shown = said.hasNext() ? said.next() : new Readme.Shown(null, "nothing", "nothing", "0");
            same("README.md's next call, " + shown.call(), shown.method(), method);
            same("README.md's answer of " + shown.call(), shown.answer().toString(), due.toString());
        }
    }

    /** Each method stands in an example, and each that answers has an answer there, whatever its line looks like. */
    private static void theWholeFaceIsShown(List<List<Readme.Shown>> examples) {
        Set<String> shown = new TreeSet<>();
        Set<String> silent = new TreeSet<>();
        for (List<Readme.Shown> example : examples) {
            for (Readme.Shown call : example) {
                shown.add(call.method());
                if (call.said() == null) {
                    silent.add(call.method());
                }
            }
        }
        Set<String> face = new TreeSet<>();
        for (Method method : OutwardTape.class.getDeclaredMethods()) {
            if (Modifier.isPublic(method.getModifiers())) {
                face.add(method.getName());
            }
        }
        same("methods that README.md shows", shown.toString(), face.toString());
        same("methods shown without an answer", silent.toString(), "[clear, wipe]");
    }

    /** The table of texts: what stands there in words is written here as the document asks for it. */
    private static void theTextsAreReadAsTold(String text) {
        double low = Reference.decimal(new BigDecimal("-0.0015"), false);
        row(text, "the empty interval, TRV", EMPTY, "[]", "[ empty ]");
        row(text, "all real numbers, DAC", dac(-INF, INF), "[,]", "[entire]", "[ -infinity , +infinity ]");
        row(text, "from 2 to 2, COM", com(2), "[2]", "[ +2. ]", "[.2E1]");
        row(text, "from -0.0015 rounded down to 2, COM", com(low, 2), "[-1.5e-3,2]");
        row(text, "the same, DEF", def(low, 2), "[-1.5e-3,2]_def");
        row(text, "from -0.0015 rounded down to plus infinity, DAC", dac(low, INF), "[-1.5e-3,]", "[-1.5e-3,inf]");
        row(text, "from minus infinity to 2, TRV", trv(-INF, 2), "[,2]_trv");
        row(text, "ILL", ILL, "[nai]");
        row(text, "ILL, as these are no literals or none with such a decoration", ILL,
            "[2,1]", "[inf]", "[- 1]", "[2] ", "[,]_com", "[]_def");
        Check.due("rows of README.md's table of texts", text.split("\n\\| `\\[", -1).length - 1, 9);
    }

    private static void row(String text, String cell, Told due, String... texts) {
        String row = "\n| `" + String.join("`, `", texts) + "` | " + cell + " |\n";
        Check.due("README.md has the row" + row, text.contains(row), true);
        for (String one : texts) {
            literal(one, due);
        }
    }

    private static void theTestsAreTold(String text) throws IOException {
        Check.due("README.md tells of .ci/run", text.contains("\n    .ci/run\n"), true);
        try (Stream<Path> files = Files.list(Path.of("src/test/java"))) {
            for (Path file : files.toList()) {
                String name = file.getFileName().toString().replace(".java", "");
                if (name.endsWith("Test")) {
                    Check.due("README.md tells of " + name, text.contains("`" + name + "`"), true);
                }
            }
        }
    }
}
