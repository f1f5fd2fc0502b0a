import java.io.IOException;
import java.lang.reflect.InvocationTargetException;
import java.lang.reflect.Method;
import java.nio.file.Files;
import java.nio.file.Path;
import java.util.ArrayList;
import java.util.Arrays;
import java.util.List;
import java.util.TreeSet;
import java.util.regex.Matcher;
import java.util.regex.Pattern;
import java.util.stream.Collectors;

/** What README.md shows and tells of calls is true of the class. */
public final class ReadmeTest {
    private static final Check CHECK = new Check("ReadmeTest");
    private static final String NEW_OBJECT = "Netcompare x = new Netcompare();";
    /** A call and its answer, as "x.parts(0);  // 2: words", or "// throws", an exception and words. */
    private static final Pattern CALL =
            Pattern.compile("x\\.(\\w+)\\((.*?)\\);\\s+// ('.'|throws \\w+|[-.\\w]+)(: .*)?");
    /** A row of a table: a call, what it answers, what it throws. */
    private static final Pattern ROW = Pattern.compile("\\| `(\\w+)\\((.*?)\\)` \\| (.+?) \\| (.*?) ?\\|");
    private static Netcompare x;

    public static void main(String[] args) throws IOException {
        List<String> lines = Files.readAllLines(Path.of("README.md"));
        showAllCalls(lines);
        tellAllExceptions(lines);
        CHECK.due("an end of 512 calls is told", true, () -> String.join(" ", lines).contains("at most 512 calls"));
        CHECK.due("names of tests", testNames(), () -> namesIn(lines));
        CHECK.finish();
    }

    private static void showAllCalls(List<String> lines) {
        boolean isCode = false;
        for (String line : lines) {
            if (line.startsWith("```")) {
                isCode = line.equals("```java");
            } else if (isCode && line.equals(NEW_OBJECT)) {
                x = new Netcompare();
            } else if (isCode) {
                showCall(line);
            }
        }
    }

    private static void showCall(String line) {
        Matcher call = CALL.matcher(line);
        boolean isCall = call.matches();
        CHECK.due("a line of code that can be read: " + line, true, () -> isCall);
        if (isCall) {
            CHECK.due(line, call.group(3), () -> answer(call.group(1), call.group(2)));
        }
    }

    /** The answer as README.md writes it. */
    private static String answer(String name, String arguments) {
        Method method = methodOf(name);
        String[] pieces = arguments.isEmpty() ? new String[0] : arguments.split(", ");
        Object[] values = Arrays.stream(pieces).map(ReadmeTest::value).toArray();
        try {
            Object answer = method.invoke(x, values);
            return answer instanceof Character ? "'" + answer + "'" : String.valueOf(answer);
        } catch (InvocationTargetException thrown) {
            return "throws " + thrown.getCause().getClass().getSimpleName();
        } catch (ReflectiveOperationException wrong) {
            throw new IllegalStateException(wrong);
        }
    }

    private static Object value(String piece) {
        return piece.startsWith("'") ? (Object) piece.charAt(1) : (Object) Integer.valueOf(piece);
    }

    private static Method methodOf(String name) {
        for (Method method : Netcompare.class.getMethods()) {
            if (method.getName().equals(name)) {
                return method;
            }
        }
        throw new IllegalStateException("no method " + name);
    }

    /** Each call of the face has a row with its parameters, and with its exceptions in the order of the document. */
    private static void tellAllExceptions(List<String> lines) throws IOException {
        TreeSet<String> face = new TreeSet<>();
        for (String line : Files.readAllLines(Path.of("../shared/DOC.md"))) {
            if (line.startsWith("    public ") && !line.contains("Netcompare()")) {
                face.add(asRow(line));
            }
        }
        List<String> rows = new ArrayList<>();
        for (String line : lines) {
            Matcher row = ROW.matcher(line);
            if (row.matches()) {
                rows.add(row.group(1) + "(" + row.group(2) + ") " + exceptionsIn(row.group(4)));
            }
        }
        CHECK.due("rows", String.join("\n", face),
                () -> rows.stream().sorted().collect(Collectors.joining("\n")));
    }

    /** "f(a, b) X, Y" of a line of the document. */
    private static String asRow(String line) {
        String call = line.replaceAll("^ *public \\w+ |\\).*", "").replaceAll("(?<=[(,] ?)(int|char) ", "");
        String thrown = line.contains("throws ") ? line.replaceAll(".*throws |;|Exception", "") : "";
        return call + ") " + thrown;
    }

    private static String exceptionsIn(String cell) {
        Matcher name = Pattern.compile("(?<=^|; )\\w+(?=: )").matcher(cell);
        return name.results().map(found -> found.group()).collect(Collectors.joining(", "));
    }

    private static String testNames() {
        String[] files = Path.of("src/test/java").toFile().list((at, name) -> name.endsWith("Test.java"));
        return Arrays.stream(files).map(name -> name.replace(".java", "")).sorted().collect(Collectors.joining(" "));
    }

    private static String namesIn(List<String> lines) {
        TreeSet<String> names = new TreeSet<>();
        for (String line : lines) {
            if (line.startsWith("- ")) {
                Pattern.compile("`(\\w+Test)`").matcher(line.split(": ")[0]).results()
                        .forEach(found -> names.add(found.group(1)));
            }
        }
        return String.join(" ", names);
    }
}
