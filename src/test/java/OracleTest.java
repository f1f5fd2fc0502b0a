import java.lang.reflect.InvocationTargetException;
import java.lang.reflect.Method;
import java.util.ArrayList;
import java.util.Arrays;
import java.util.Collections;
import java.util.List;
import java.util.Random;
import java.util.TreeMap;

/** Long random runs of calls, right and wrong ones; each answer is compared with that of the oracle. */
public final class OracleTest {
    private static final Check CHECK = new Check("OracleTest");
    private static final int MOST_CALLS = 512;
    /** What each argument is: c circuit, n net, p part, k kind, v value, l letter, i pin, x index, - always -1. */
    private static final String[] CHANGES = {
        "addNet c", "setPort cnl", "addPart ckvnnn", "addPart ckvnn-", "addPart ckvnn-", "removePart cp",
        "setValue cpv", "rewire cpin", "swapPins cp", "copyWished ", "join cpp", "join cpp", "joinAll c",
    };
    private static final String[] QUESTIONS = {
        "canJoin cpp", "nets c", "parts c", "kindOf cp", "valueOf cp", "netOf cpi", "pinsOn cn", "portOf cn",
        "distance cn", "labelLength cp", "labelAt cpx", "rounds ", "netClasses ", "partClasses ", "netsLike cnc",
        "partsLike cpc", "areAlike nn", "isMatched ", "isMatchedByTrying ", "matchedNet n", "netByTrying n",
        "matchedPart p", "matchedPin pi", "differences ", "differenceKind x", "differenceMember x",
        "differenceDistance x", "differenceSize xc", "equalShare ", "meanDistance c", "valueSum c",
    };
    private static final int[] ODD = {-1, -2, 2, 3, 9, 10, 11, 12, 100, 999, 1000, '-', 'a', 'g', 'x',
        Integer.MAX_VALUE, Integer.MIN_VALUE};

    private final Random random;
    private final Netcompare asked = new Netcompare();
    private final Oracle oracle = new Oracle();
    private final TreeMap<String, Method> methods = new TreeMap<>();
    private final StringBuilder told = new StringBuilder();
    private int calls;
    /** How many nets and parts arguments reach to, how many values there are, and one in how many is odd. */
    private int reach = 4;
    private int values = 2;
    private int oddOneIn = 40;

    private OracleTest(long seed) {
        random = new Random(seed);
        for (Method method : Netcompare.class.getDeclaredMethods()) {
            methods.put(method.getName(), method);
        }
    }

    public static void main(String[] args) {
        int runs = args.length > 0 ? Integer.parseInt(args[0]) : 60;
        for (int run = 0; run < runs; run++) {
            new OracleTest(run).goAtRandom();
            new OracleTest(run).goWithOddArguments();
            new OracleTest(run).goWithShuffledCopy();
            new OracleTest(run).goWithJoining();
            new OracleTest(run).goWithRings();
        }
        CHECK.finish();
    }

    private void goAtRandom() {
        reach = 2 + random.nextInt(5);
        values = 1 + random.nextInt(3);
        for (int net = 0; net < 2 * reach; net++) {
            call("addNet", net % 2);
        }
        while (calls < MOST_CALLS) {
            callAtRandom(CHANGES);
            for (int question = random.nextInt(12); question > 0; question--) {
                callAtRandom(QUESTIONS);
            }
        }
    }

    private void goWithOddArguments() {
        oddOneIn = 4;
        reach = 7;
        while (calls < MOST_CALLS) {
            callAtRandom(random.nextInt(3) == 0 ? CHANGES : QUESTIONS);
        }
    }

    private void goWithJoining() {
        reach = 5 + random.nextInt(6);
        values = random.nextBoolean() ? 3 : 999;
        for (int net = 0; net < reach; net++) {
            call("addNet", 0);
        }
        call("setPort", 0, random.nextInt(reach), 'a');
        for (int part = 0; part < 10; part++) {
            call("addPart", 0, random.nextInt(6) == 0 ? 'c' : 'r', value(), random.nextInt(reach),
                    random.nextInt(reach), -1);
        }
        for (int one = 0; one < 10; one++) {
            for (int other = 0; other < 10; other++) {
                call("canJoin", 0, one, other);
            }
        }
        call("copyWished");
        for (int trial = 0; trial < 40; trial++) {
            call("join", 1, random.nextInt(10), random.nextInt(10));
        }
        call("joinAll", random.nextInt(2));
        askAll();
        call("joinAll", 0);
        call("joinAll", 1);
        askAll();
    }

    /** The drawn circuit is the wished one with other numbers, and at times one fault. */
    private void goWithShuffledCopy() {
        reach = 2 + random.nextInt(9);
        values = 1 + random.nextInt(2);
        List<Integer> newNet = new ArrayList<>();
        for (int net = 0; net < reach; net++) {
            newNet.add(net);
            call("addNet", 0);
            call("addNet", 1);
        }
        Collections.shuffle(newNet, random);
        List<int[]> parts = new ArrayList<>();
        for (int part = 0; part < 10; part++) {
            char kind = "rrrrcdtt".charAt(random.nextInt(8));
            int third = kind == 't' ? random.nextInt(reach) : -1;
            int[] added = {0, kind, value(), random.nextInt(reach), random.nextInt(reach), third};
            call("addPart", added);
            parts.add(new int[] {1, kind, added[2], newNet.get(added[3]), newNet.get(added[4]),
                third < 0 ? -1 : newNet.get(third)});
        }
        Collections.shuffle(parts, random);
        for (int part = 0; part < 10; part++) {
            call("addPart", parts.get(part));
            if (parts.get(part)[1] != 'd' && random.nextBoolean()) {
                call("swapPins", 1, part);
            }
        }
        for (char letter = 'a'; letter < 'a' + random.nextInt(4); letter++) {
            int net = random.nextInt(reach);
            call("setPort", 0, net, letter);
            call("setPort", 1, newNet.get(net), letter);
        }
        askAll();
        callAtRandom(CHANGES);
        askAll();
        call("copyWished");
        call("isMatched");
    }

    /** Two circuits of the same resistors in rings: all of one colour, and often without a match. */
    private void goWithRings() {
        reach = 6 + random.nextInt(3);
        for (int circuit = 0; circuit < 2; circuit++) {
            List<Integer> nets = new ArrayList<>();
            for (int net = 0; net < reach; net++) {
                nets.add(net);
                call("addNet", circuit);
            }
            Collections.shuffle(nets, random);
            int split = random.nextBoolean() ? reach : 2 + random.nextInt(reach - 3);
            addRing(circuit, nets.subList(0, split));
            addRing(circuit, nets.subList(split, reach));
        }
        askAll();
        for (int part = 0; part < reach; part++) {
            call("swapPins", 0, part);
        }
        call("setPort", 0, random.nextInt(reach), 'f');
        call("setPort", 1, random.nextInt(reach), 'f');
        askAll();
        callAtRandom(CHANGES);
        askAll();
    }

    private void addRing(int circuit, List<Integer> nets) {
        for (int index = 0; index < nets.size(); index++) {
            call("addPart", circuit, 'r', 5, nets.get(index), nets.get((index + 1) % nets.size()), -1);
        }
    }

    private void askAll() {
        for (String question : new String[] {"rounds", "netClasses", "partClasses", "isMatched",
            "isMatchedByTrying", "differences", "equalShare"}) {
            call(question);
        }
        for (int number = 0; number < 10; number++) {
            for (String question : new String[] {"matchedNet", "netByTrying", "matchedPart", "differenceKind",
                "differenceMember", "differenceDistance"}) {
                call(question, number);
            }
            for (int pin = 0; pin < 3; pin++) {
                call("matchedPin", number, pin);
            }
            call("netsLike", number % 2, number, 1);
            call("partsLike", number % 2, number, 0);
            call("differenceSize", number, number % 2);
            call("labelLength", number % 2, number);
        }
    }

    private void callAtRandom(String[] from) {
        String[] pieces = from[random.nextInt(from.length)].split(" ", 2);
        int[] arguments = new int[pieces[1].length()];
        for (int index = 0; index < arguments.length; index++) {
            arguments[index] = argument(pieces[1].charAt(index));
        }
        call(pieces[0], arguments);
    }

    private int argument(char what) {
        if (what != '-' && random.nextInt(oddOneIn) == 0) {
            return ODD[random.nextInt(ODD.length)];
        }
        return switch (what) {
            case 'c' -> random.nextInt(2);
            case 'n' -> random.nextInt(reach);
            case 'p' -> random.nextInt(Math.min(10, reach + 3));
            case 'k' -> "rrrcdt".charAt(random.nextInt(6));
            case 'v' -> value();
            case 'l' -> "ab-".charAt(random.nextInt(3));
            case 'i' -> random.nextInt(3);
            case 'x' -> random.nextInt(11);
            default -> -1;
        };
    }

    private int value() {
        return random.nextInt(20) == 0 ? 999 : 1 + random.nextInt(values);
    }

    private void call(String name, int... arguments) {
        if (calls >= MOST_CALLS) {
            return;
        }
        calls++;
        String text = name + Arrays.toString(arguments);
        String want = Check.answerOf(() -> oracle.answer(name, seenBy(methods.get(name), arguments)));
        String got = Check.answerOf(() -> answer(methods.get(name), arguments));
        CHECK.due(got.equals(want) ? text : text + " behind" + told, want, () -> got);
        told.append(told.length() > 0 ? ", " : " ").append(text);
    }

    /** The oracle gets characters as the class does: cut off to 16 bits. */
    private static int[] seenBy(Method method, int[] arguments) {
        int[] seen = arguments.clone();
        for (int index = 0; index < seen.length; index++) {
            if (method.getParameterTypes()[index] == char.class) {
                seen[index] = (char) seen[index];
            }
        }
        return seen;
    }

    private Object answer(Method method, int[] arguments) {
        Object[] boxed = new Object[arguments.length];
        for (int index = 0; index < boxed.length; index++) {
            boolean isChar = method.getParameterTypes()[index] == char.class;
            boxed[index] = isChar ? (Object) (char) arguments[index] : (Object) arguments[index];
        }
        try {
            return method.invoke(asked, boxed);
        } catch (InvocationTargetException thrown) {
            throw (RuntimeException) thrown.getCause();
        } catch (IllegalAccessException impossible) {
            throw new AssertionError(impossible);
        }
    }
}
