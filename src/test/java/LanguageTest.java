import java.io.File;
import java.io.IOException;
import java.io.PrintWriter;
import java.io.StringWriter;
import java.lang.reflect.Constructor;
import java.lang.reflect.Field;
import java.lang.reflect.Method;
import java.lang.reflect.Modifier;
import java.nio.file.Files;
import java.nio.file.Path;
import java.util.ArrayList;
import java.util.List;
import java.util.TreeMap;
import java.util.TreeSet;
import java.util.regex.Matcher;
import java.util.regex.Pattern;
import java.util.spi.ToolProvider;

/** The bounds of ../shared/LANGUAGE.md that can be counted, and the words that it rules out. */
public final class LanguageTest {
    private static final Check CHECK = new Check("LanguageTest");
    private static final List<String> EXCEPTIONS = List.of("IllegalStateException", "IllegalArgumentException",
            "IndexOutOfBoundsException", "ArithmeticException", "UnsupportedOperationException",
            "NoSuchElementException", "RuntimeException");
    private static final String RULED_OUT = "\\b(try|catch|finally|assert|synchronized|instanceof|protected|package"
            + "|Object|equals|hashCode|toString|Random|Thread|Float|Double|Character|Boolean)\\b|->|::"
            + "|\\bSystem\\.(?!arraycopy\\b)|\\bMath\\.\\w*Exact\\b|\\bstatic \\{";
    private static final List<Class<?>> CLASSES = classes();
    /** The methods that each one calls, all as "Netcompare$Circuit.measure". */
    private static final TreeMap<String, TreeSet<String>> CALLS = new TreeMap<>();

    public static void main(String[] args) throws IOException {
        List<String> lines = Files.readAllLines(Path.of("src/main/java/Netcompare.java"));
        CHECK.due("words that are ruled out (rules 4, 6, 10)", List.of(), () -> linesWith(lines, RULED_OUT));
        CHECK.due("signs that are no ASCII (rule 4)", List.of(), () -> linesWith(lines, "[^ -~]"));
        CHECK.due("other exceptions (rule 6)", List.of(),
                () -> linesWith(lines, "throw (?!new (" + String.join("|", EXCEPTIONS) + ")\\()"));
        CHECK.due("private methods with the name of a public one (rule 1)", List.of(), () -> namesTakenTwice());
        CHECK.due("static fields that are not final (rule 5)", List.of(), () -> staticFieldsThatChange());
        CHECK.due("classes with more than 20 fields (rule 11)", List.of(), () -> classesWithManyFields());
        CHECK.due("methods with more than 7 parameters (rule 11)", List.of(), () -> longFaces());
        CHECK.due("methods with more than 60 lines (rule 11)", List.of(), () -> longMethods(lines));
        CHECK.due("at most 12 classes (rule 11)", true, () -> CLASSES.size() <= 12);
        ToolProvider.findFirst("javap").ifPresentOrElse(LanguageTest::countCalls,
                () -> System.out.println("LanguageTest: without javap, calls are not counted"));
        CHECK.finish();
    }

    private static void countCalls(ToolProvider javap) {
        readCalls(javap);
        CHECK.due("calls are read", true, () -> CALLS.size() > 100);
        CHECK.due("calls more than 8 deep (rule 11)", List.of(), () -> deepCalls());
        CHECK.due("methods that call themselves (rule 8)",
                "[Netcompare$Match.mapNetsFrom, Netcompare$Match.tryNetsFrom]", () -> recursions().toString());
    }

    private static List<Class<?>> classes() {
        List<Class<?>> all = new ArrayList<>(List.of(Netcompare.class.getDeclaredClasses()));
        all.add(Netcompare.class);
        return all;
    }

    /** Lines of code, without comments and written texts. */
    private static List<String> linesWith(List<String> lines, String pattern) {
        return lines.stream().filter(line -> !line.trim().startsWith("*") && !line.trim().startsWith("/*"))
                .map(line -> line.replaceAll("\"[^\"]*\"", "\"\""))
                .filter(line -> Pattern.compile(pattern).matcher(line).find()).toList();
    }

    private static List<String> namesTakenTwice() {
        List<String> face = new ArrayList<>();
        List<String> inside = new ArrayList<>();
        for (Class<?> type : CLASSES) {
            for (Method method : type.getDeclaredMethods()) {
                (Modifier.isPublic(method.getModifiers()) ? face : inside).add(method.getName());
            }
        }
        return inside.stream().filter(face::contains).toList();
    }

    private static List<String> staticFieldsThatChange() {
        return fields().stream().filter(field -> Modifier.isStatic(field.getModifiers()))
                .filter(field -> !Modifier.isFinal(field.getModifiers()) || !field.getType().isPrimitive())
                .map(Field::toString).toList();
    }

    private static List<Field> fields() {
        return CLASSES.stream().flatMap(type -> List.of(type.getDeclaredFields()).stream()).toList();
    }

    private static List<String> classesWithManyFields() {
        return CLASSES.stream().filter(type -> fields().stream().filter(field -> field.getDeclaringClass() == type
                && !Modifier.isStatic(field.getModifiers())).count() > 20).map(Class::getName).toList();
    }

    private static List<String> longFaces() {
        List<String> names = new ArrayList<>();
        for (Class<?> type : CLASSES) {
            for (Method method : type.getDeclaredMethods()) {
                if (method.getParameterCount() > 7) {
                    names.add(method.toString());
                }
            }
            for (Constructor<?> constructor : type.getDeclaredConstructors()) {
                if (constructor.getParameterCount() > 7) {
                    names.add(constructor.toString());
                }
            }
        }
        return names;
    }

    /** A method begins with an indented line with "(" and "{", or with "{" behind "throws", and ends with "}". */
    private static List<String> longMethods(List<String> lines) {
        List<String> names = new ArrayList<>();
        for (int from = 0; from < lines.size(); from++) {
            Matcher start = Pattern.compile("^( {4}| {8})\\w.*\\(.*$").matcher(lines.get(from));
            if (start.matches() && !lines.get(from).endsWith(";")) {
                int end = from + lines.subList(from, lines.size()).indexOf(start.group(1) + "}");
                if (end - from + 1 > 60) {
                    names.add(lines.get(from).trim());
                }
            }
        }
        return names;
    }

    /** Reads which methods call which from what javap tells of the compiled classes. */
    private static void readCalls(ToolProvider javap) {
        String from = Netcompare.class.getProtectionDomain().getCodeSource().getLocation().getPath();
        for (Class<?> type : CLASSES) {
            StringWriter told = new StringWriter();
            PrintWriter out = new PrintWriter(told);
            javap.run(out, out, "-c", "-p", new File(from, type.getName() + ".class").getPath());
            readCallsOf(type, told.toString());
        }
    }

    private static void readCallsOf(Class<?> type, String told) {
        String caller = "";
        for (String line : told.split("\n")) {
            Matcher method = Pattern.compile("^  (?! ).*?([\\w$.]+)\\(.*\\).*;$").matcher(line);
            Matcher called = Pattern.compile("// Method (?:(Netcompare[\\w$]*)\\.)?\"?([\\w<>]+)\"?:").matcher(line);
            if (method.matches()) {
                String name = method.group(1);
                caller = type.getName() + "." + (name.equals(type.getName()) ? "<init>" : name);
                CALLS.put(caller, new TreeSet<>());
            } else if (called.find() && CALLS.containsKey(caller)) {
                String owner = called.group(1) == null ? type.getName() : called.group(1);
                CALLS.get(caller).add(owner + "." + called.group(2));
            }
        }
    }

    private static List<String> deepCalls() {
        return CALLS.keySet().stream().filter(name -> depth(name, 0) > 8).toList();
    }

    /** How many calls stand open at most, without those by which a method calls itself. */
    private static int depth(String name, int above) {
        int deepest = 1;
        for (String called : CALLS.getOrDefault(name, new TreeSet<>())) {
            if (CALLS.containsKey(called) && !called.equals(name) && above < 20) {
                deepest = Math.max(deepest, 1 + depth(called, above + 1));
            }
        }
        return deepest;
    }

    private static List<String> recursions() {
        return CALLS.keySet().stream().filter(name -> reaches(name, name, 0)).toList();
    }

    private static boolean reaches(String name, String wanted, int above) {
        for (String called : CALLS.getOrDefault(name, new TreeSet<>())) {
            if (called.equals(wanted) || above < 12 && !called.equals(name) && reaches(called, wanted, above + 1)) {
                return true;
            }
        }
        return false;
    }
}
