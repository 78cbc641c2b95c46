import java.util.concurrent.Callable;

/** Counts tests: a test passes if none of its checks fails. */
final class Check {
    private static int passed = 0;
    private static int failed = 0;

    interface Test {
        void run() throws Exception;
    }

    private Check() {
    }

    static void test(String name, Test test) {
        try {
            test.run();
            passed++;
        } catch (Throwable wrong) {
            failed++;
            System.out.println("FAILED " + name + ": " + wrong);
        }
    }

    static void same(String what, long got, long want) {
        if (got != want) {
            throw new AssertionError(what + " answered " + got + ", due is " + want);
        }
    }

    static void same(String what, double got, double want) {
        if (got != want) {
            throw new AssertionError(what + " answered " + got + ", due is " + want);
        }
    }

    static void same(String what, String got, String want) {
        if (!got.equals(want)) {
            throw new AssertionError(what + " answered '" + got + "', due is '" + want + "'");
        }
    }

    static void yes(String what, boolean got) {
        if (!got) {
            throw new AssertionError(what + " does not hold");
        }
    }

    static void noIndex(String what, Callable<?> call) {
        throwing(what, IndexOutOfBoundsException.class, call);
    }

    static void noArgument(String what, Callable<?> call) {
        throwing(what, IllegalArgumentException.class, call);
    }

    static void noState(String what, Callable<?> call) {
        throwing(what, IllegalStateException.class, call);
    }

    private static void throwing(String what, Class<?> due, Callable<?> call) {
        Object answer;
        try {
            answer = call.call();
        } catch (Exception thrown) {
            if (thrown.getClass() != due) {
                throw new AssertionError(what + " threw " + thrown + ", due is " + due.getName());
            }
            return;
        }
        throw new AssertionError(what + " answered " + answer + ", due is " + due.getName());
    }

    /** Prints the closing line; tells whether all passed. */
    static boolean close() {
        System.out.println(passed + " passed, " + failed + " failed");
        return failed == 0;
    }
}
