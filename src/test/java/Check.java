import java.util.Set;
import java.util.TreeSet;
import java.util.function.IntFunction;
import java.util.regex.Matcher;
import java.util.regex.Pattern;

/** Counts the checks of a run of tests and prints those that fail. */
final class Check {
    private static final Pattern PROMISE = Pattern.compile("promise (\\d+): .*");
    private static final int[] FARTHEST = {Integer.MIN_VALUE, Integer.MAX_VALUE};

    /** A call of the class under test; it may throw. */
    interface Call {
        Object answer();
    }

    private final Set<Integer> promises = new TreeSet<>();
    private String test = "";
    private int passed;
    private int failed;

    /** Names the test that the next checks belong to. */
    void test(String name) {
        test = name;
        Matcher matcher = PROMISE.matcher(name);
        if (matcher.matches()) {
            promises.add(Integer.valueOf(matcher.group(1)));
        }
    }

    /** The promises of which a test so far bears the name. */
    Set<Integer> promises() {
        return promises;
    }

    void due(Object want, Object got) {
        if (want.equals(got)) {
            passed++;
        } else {
            failed++;
            System.out.println(test + ": " + got + " instead of " + want + " at " + place());
        }
    }

    void dueThrow(Class<? extends RuntimeException> want, Call call) {
        due("throws." + want.getSimpleName(), ownOutcome(call));
    }

    /** The numbers from low to high are taken; the ones beside them and the farthest ones are refused. */
    void dueFromTo(int low, int high, Class<? extends RuntimeException> want, IntFunction<Object> call) {
        for (int number = low; number <= high; number++) {
            int taken = number;
            Object outcome = ownOutcome(() -> call.apply(taken));
            due(number + " is taken", number + (outcome.toString().contains("throws.") ? " " + outcome : " is taken"));
        }
        dueThrow(want, () -> call.apply(low - 1));
        dueThrow(want, () -> call.apply(high + 1));
        for (int far : FARTHEST) {
            dueThrow(want, () -> call.apply(far));
        }
    }

    /** The outcome of a call of the class under test, which must throw by its own throw statements alone. */
    static Object ownOutcome(Call call) {
        try {
            return call.answer();
        } catch (RuntimeException thrown) {
            return (isOwn(thrown) ? "throws." : "the machine throws.") + thrown.getClass().getSimpleName();
        }
    }

    private static boolean isOwn(RuntimeException thrown) {
        StackTraceElement[] frames = thrown.getStackTrace();
        return frames.length > 0 && frames[0].getClassName().startsWith("QualityGate")
                && !"/ by zero".equals(thrown.getMessage());
    }

    /** The answer of a call, or the name of the exception that it throws. */
    static Object outcome(Call call) {
        try {
            return call.answer();
        } catch (RuntimeException thrown) {
            return "throws." + thrown.getClass().getSimpleName();
        }
    }

    int passed() {
        return passed;
    }

    int failed() {
        return failed;
    }

    private static String place() {
        for (StackTraceElement frame : new Throwable().getStackTrace()) {
            if (!frame.getClassName().equals("Check")) {
                return frame.getFileName() + ":" + frame.getLineNumber();
            }
        }
        return "an unknown place";
    }
}
