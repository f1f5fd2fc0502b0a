import java.util.NoSuchElementException;
import java.util.function.Supplier;

/** Counts the answers that are not as due, and tells them. */
final class Check {
    private final String test;
    private int asked;
    private int wrong;

    Check(String test) {
        this.test = test;
    }

    void due(String call, Object want, Supplier<Object> got) {
        asked++;
        String answer = answerOf(got);
        if (!answer.equals(String.valueOf(want))) {
            wrong++;
            System.out.println(test + ": " + call + " answered " + answer + ", due is " + want);
        }
    }

    /** The answer as a text; for a call that throws, the name of the exception. */
    static String answerOf(Supplier<Object> got) {
        try {
            return String.valueOf(got.get());
        } catch (RuntimeException thrown) {
            return thrown.getClass().getSimpleName();
        }
    }

    void finish() {
        System.out.println(test + ": " + asked + " answers, " + wrong + " not as due");
        if (wrong > 0) {
            System.exit(1);
        }
    }

    static final String ARGUMENT = IllegalArgumentException.class.getSimpleName();
    static final String STATE = IllegalStateException.class.getSimpleName();
    static final String ELEMENT = NoSuchElementException.class.getSimpleName();
    static final String INDEX = IndexOutOfBoundsException.class.getSimpleName();
    static final String UNSUPPORTED = UnsupportedOperationException.class.getSimpleName();
    static final String ARITHMETIC = ArithmeticException.class.getSimpleName();
}
