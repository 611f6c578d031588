/** Counts the checks of a run of tests and prints those that fail. */
final class Check {
    /** A call of the class under test; it may throw. */
    interface Call {
        Object answer();
    }

    private String test = "";
    private int passed;
    private int failed;

    /** Names the test that the next checks belong to. */
    void test(String name) {
        test = name;
    }

    void due(Object want, Object got) {
        if (want.equals(got)) {
            passed++;
        } else {
            failed++;
            System.out.println(test + ": " + got + " instead of " + want + " at " + place());
        }
    }

    void dueThrow(Class<? extends RuntimeException> want, Call call) {
        due("throws." + want.getSimpleName(), ownOutcome(call));
    }

    /** The outcome of a call of the class under test, which must throw by its own throw statements alone. */
    static Object ownOutcome(Call call) {
        try {
            return call.answer();
        } catch (RuntimeException thrown) {
            return (isOwn(thrown) ? "throws." : "the machine throws.") + thrown.getClass().getSimpleName();
        }
    }

    private static boolean isOwn(RuntimeException thrown) {
        StackTraceElement[] frames = thrown.getStackTrace();
        return frames.length > 0 && frames[0].getClassName().startsWith("QualityGate")
                && !"/ by zero".equals(thrown.getMessage());
    }

    /** The answer of a call, or the name of the exception that it throws. */
    static Object outcome(Call call) {
        try {
            return call.answer();
        } catch (RuntimeException thrown) {
            return "throws." + thrown.getClass().getSimpleName();
        }
    }

    int passed() {
        return passed;
    }

    int failed() {
        return failed;
    }

    private static String place() {
        for (StackTraceElement frame : new Throwable().getStackTrace()) {
            if (!frame.getClassName().equals("Check")) {
                return frame.getFileName() + ":" + frame.getLineNumber();
            }
        }
        return "an unknown place";
    }
}
