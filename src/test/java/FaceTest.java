import java.io.IOException;
import java.lang.reflect.Constructor;
import java.lang.reflect.Field;
import java.lang.reflect.Method;
import java.lang.reflect.Modifier;
import java.nio.file.Files;
import java.nio.file.Path;
import java.util.ArrayList;
import java.util.Arrays;
import java.util.List;
import java.util.TreeSet;
import java.util.stream.Collectors;

/** The public face: what the code block of the document says, and no other member that can be seen. */
public final class FaceTest {
    private static final Check CHECK = new Check("FaceTest");
    private static final Path DOCUMENT = Path.of("../shared/DOC.md");

    public static void main(String[] args) throws IOException {
        CHECK.due("methods", documentFace(), () -> classFace());
        CHECK.due("constructors", "1 public", () -> constructors());
        CHECK.due("visible fields", "[]", () -> visibleFields());
        CHECK.due("final", true, () -> Modifier.isFinal(Netcompare.class.getModifiers()));
        CHECK.due("inner classes that are not static, or public", "[]", () -> wrongClasses());
        CHECK.finish();
    }

    private static String documentFace() throws IOException {
        TreeSet<String> face = new TreeSet<>();
        for (String line : Files.readAllLines(DOCUMENT)) {
            if (line.startsWith("    public ") && !line.contains("Netcompare()")) {
                face.add(withoutNames(line.trim()));
            }
        }
        return String.join("\n", face);
    }

    /** "int f(int, char) throws A, B" of a line of the document. */
    private static String withoutNames(String line) {
        return line.replaceAll("^public |;$", "").replaceAll("(int|char) \\w+(?=[,)])", "$1");
    }

    private static String classFace() {
        TreeSet<String> face = new TreeSet<>();
        for (Method method : Netcompare.class.getDeclaredMethods()) {
            if (!Modifier.isPrivate(method.getModifiers()) && !method.isSynthetic()) {
                face.add((method.getModifiers() == Modifier.PUBLIC ? "" : "wrong: ") + signature(method));
            }
        }
        return String.join("\n", face);
    }

    private static String signature(Method method) {
        String thrown = names(method.getExceptionTypes());
        return method.getReturnType().getSimpleName() + " " + method.getName()
                + "(" + names(method.getParameterTypes()) + ")" + (thrown.isEmpty() ? "" : " throws " + thrown);
    }

    private static String names(Class<?>[] types) {
        return Arrays.stream(types).map(Class::getSimpleName).collect(Collectors.joining(", "));
    }

    private static String constructors() {
        Constructor<?>[] all = Netcompare.class.getDeclaredConstructors();
        return all.length + (Modifier.isPublic(all[0].getModifiers()) ? " public" : " hidden");
    }

    private static List<String> visibleFields() {
        List<String> visible = new ArrayList<>();
        for (Field field : Netcompare.class.getDeclaredFields()) {
            if (!Modifier.isPrivate(field.getModifiers())) {
                visible.add(field.getName());
            }
        }
        return visible;
    }

    private static List<String> wrongClasses() {
        List<String> wrong = new ArrayList<>();
        for (Class<?> inside : Netcompare.class.getDeclaredClasses()) {
            int modifiers = inside.getModifiers();
            if (!Modifier.isStatic(modifiers) || Modifier.isPublic(modifiers) || Modifier.isProtected(modifiers)) {
                wrong.add(inside.getSimpleName());
            }
        }
        return wrong;
    }
}
