/** Counts and prints the calls whose answer is not the one that is due. */
final class Check {
    private final String test;
    private int calls = 0;
    private int wrong = 0;

    Check(String test) {
        this.test = test;
    }

    void due(String call, long got, long want) {
        calls++;
        if (got != want) {
            report(call + " answered " + got + ", due is " + want);
        }
    }

    void dueText(String call, String got, String want) {
        calls++;
        if (!got.equals(want)) {
            report(call + " answered " + got + ", due is " + want);
        }
    }

    /** The very class that the document names is due, not one above or below it. */
    void dueThrow(String call, Class<? extends RuntimeException> want, Runnable body) {
        calls++;
        Class<?> got = null;
        try {
            body.run();
        } catch (RuntimeException e) {
            got = e.getClass();
        }
        if (got != want) {
            report(call + " threw " + got + ", due is " + want);
        }
    }

    void dueIllegalArgument(String call, Runnable body) {
        dueThrow(call, IllegalArgumentException.class, body);
    }

    void dueUnsupported(String call, Runnable body) {
        dueThrow(call, UnsupportedOperationException.class, body);
    }

    int wrongs() {
        return wrong;
    }

    private void report(String text) {
        wrong++;
        if (wrong <= 50) {
            System.out.println(test + ": " + text);
        }
    }

    void end() {
        System.out.println(test + ": " + calls + " answers looked at, " + wrong + " wrong");
        if (wrong != 0) {
            System.exit(1);
        }
    }
}
