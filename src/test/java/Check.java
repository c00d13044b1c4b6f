/** Counts what holds and what does not, for one test class. */
final class Check {
    interface Call {
        int answer();
    }

    private static int passed = 0;
    private static int failed = 0;
    private static String about = "";

    private Check() {
    }

    /** Names what the next checks are about; a failure tells it. */
    static void about(String sentence) {
        about = sentence.isEmpty() ? "" : "[" + sentence + "] ";
    }

    static int count() {
        return passed + failed;
    }

    static void that(String what, boolean holds) {
        if (holds) {
            passed++;
        } else {
            failed++;
            System.out.println("FAILED " + about + what);
        }
    }

    static void equal(String what, Object got, Object want) {
        that(what + ": answered " + got + ", due is " + want, got.equals(want));
    }

    /** The very class must be thrown, for a subclass is another exception. */
    static void raises(String what, Class<? extends RuntimeException> want, Call call) {
        equal(what, outcome(call), "throws." + want.getSimpleName());
    }

    static String outcome(Call call) {
        try {
            return Integer.toString(call.answer());
        } catch (RuntimeException thrown) {
            return "throws." + thrown.getClass().getSimpleName() + thrower(thrown);
        }
    }

    /** Tells the library's or the machine's own exceptions from those thrown by throw. */
    private static String thrower(RuntimeException thrown) {
        StackTraceElement[] trace = thrown.getStackTrace();
        String by = trace.length == 0 ? "the machine" : trace[0].getClassName();
        return by.startsWith("CoinbookSorter") || by.startsWith("Model") ? "" : " by " + by;
    }

    static void close(String name) {
        System.out.println(name + ": " + passed + " passed, " + failed + " failed");
        if (failed > 0) {
            System.exit(1);
        }
    }
}
