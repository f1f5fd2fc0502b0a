import java.lang.reflect.AccessibleObject;
import java.lang.reflect.Constructor;
import java.lang.reflect.Executable;
import java.lang.reflect.Field;
import java.lang.reflect.InvocationTargetException;
import java.lang.reflect.Method;
import java.util.ArrayList;
import java.util.Arrays;
import java.util.Comparator;
import java.util.List;
import java.util.Random;
import java.util.TreeMap;
import java.util.TreeSet;

/**
 * Rules 7 and 9 of the language for every method, those inside too: called with any arguments, in any state that
 * calls lead to, each one ends, and throws nothing but by a throw statement.
 */
public final class InsideTest {
    private static final Check CHECK = new Check("InsideTest");
    private static final int[] NUMBERS = {0, 0, 1, 1, 2, 3, 4, 5, 6, 7, 8, 9, -1, -2, 10, 11, 19, 20, 21, 31, 32, 39,
        40, 99, 100, 110, 999, 1000, 65536, Integer.MAX_VALUE, Integer.MAX_VALUE - 1, Integer.MIN_VALUE};
    private static final String SIGNS = "rcdtrcdt-abcdefg\0\uffff";
    private static final List<Class<?>> CLASSES = classes();
    private static final TreeMap<String, Method[]> METHODS = methods();

    private final Random random;
    /** Objects of each class, those too that stand in fields of others. */
    private final TreeMap<String, List<Object>> made = new TreeMap<>();
    private final TreeSet<String> faults = new TreeSet<>();

    private InsideTest(long seed) {
        random = new Random(seed);
    }

    public static void main(String[] args) {
        int runs = args.length > 0 ? Integer.parseInt(args[0]) : 200;
        TreeSet<String> faults = new TreeSet<>();
        for (int run = 0; run < runs; run++) {
            faults.addAll(new InsideTest(run).goAtRandom());
        }
        CHECK.due("methods that the machine throws in", "[]", () -> String.join("\n", faults.isEmpty()
                ? List.of("[]") : faults));
        CHECK.finish();
    }

    private TreeSet<String> goAtRandom() {
        CLASSES.forEach(type -> made.put(type.getName(), new ArrayList<>()));
        for (Class<?> type : CLASSES) {
            for (Constructor<?> constructor : type.getDeclaredConstructors()) {
                keep(call(constructor, null));
                keep(call(constructor, null));
            }
        }
        for (int times = 0; times < 20_000; times++) {
            Class<?> type = CLASSES.get(random.nextInt(CLASSES.size()));
            Method[] methods = METHODS.get(type.getName());
            List<Object> objects = made.get(type.getName());
            call(methods[random.nextInt(methods.length)], objects.get(random.nextInt(objects.size())));
        }
        return faults;
    }

    /** Keeps an object, and those that its fields hold, to be called and to be arguments. */
    private void keep(Object object) {
        if (object == null || !CLASSES.contains(object.getClass())) {
            return;
        }
        made.get(object.getClass().getName()).add(object);
        for (Field field : object.getClass().getDeclaredFields()) {
            if (CLASSES.contains(field.getType())) {
                try {
                    field.setAccessible(true);
                    keep(field.get(object));
                } catch (IllegalAccessException closed) {
                    throw new IllegalStateException(closed);
                }
            }
        }
    }

    private Object call(Executable called, Object at) {
        Object[] arguments = Arrays.stream(called.getParameterTypes()).map(this::anyOf).toArray();
        ((AccessibleObject) called).setAccessible(true);
        try {
            return called instanceof Constructor<?> constructor
                    ? constructor.newInstance(arguments) : ((Method) called).invoke(at, arguments);
        } catch (InvocationTargetException thrown) {
            if (!isThrownByStatement(thrown.getCause())) {
                faults.add(called.getDeclaringClass().getSimpleName() + "." + called.getName() + ": "
                        + thrown.getCause().getClass().getSimpleName());
            }
            return null;
        } catch (ReflectiveOperationException closed) {
            throw new IllegalStateException(closed);
        }
    }

    private Object anyOf(Class<?> type) {
        if (type == int.class) {
            return NUMBERS[random.nextInt(NUMBERS.length)];
        }
        if (type == char.class) {
            return SIGNS.charAt(random.nextInt(SIGNS.length()));
        }
        if (type == boolean.class) {
            return random.nextBoolean();
        }
        List<Object> objects = made.get(type.getName());
        return objects.isEmpty() || random.nextInt(8) == 0 ? null : objects.get(random.nextInt(objects.size()));
    }

    /** The machine's exceptions are of other classes, but for that of a division, which has other words. */
    private static boolean isThrownByStatement(Throwable thrown) {
        String name = thrown.getClass().getSimpleName();
        List<String> stated = List.of(Check.ARGUMENT, Check.STATE, Check.ELEMENT, Check.INDEX, Check.UNSUPPORTED,
                Check.ARITHMETIC);
        return stated.contains(name) && !"/ by zero".equals(thrown.getMessage())
                && thrown.getStackTrace()[0].getClassName().startsWith("Netcompare");
    }

    private static List<Class<?>> classes() {
        List<Class<?>> all = new ArrayList<>(List.of(Netcompare.class.getDeclaredClasses()));
        all.add(Netcompare.class);
        all.sort(Comparator.comparing(Class::getName));
        return all;
    }

    /** The methods of each class, in the same order each time. */
    private static TreeMap<String, Method[]> methods() {
        TreeMap<String, Method[]> all = new TreeMap<>();
        for (Class<?> type : CLASSES) {
            Method[] methods = type.getDeclaredMethods();
            Arrays.sort(methods, Comparator.comparing(Method::toString));
            all.put(type.getName(), methods);
        }
        return all;
    }
}
