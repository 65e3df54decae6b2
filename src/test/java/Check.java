/** Counts and prints the calls whose answer is not the one that is due; one without end counts too. */
final class Check {
    private static final int MOST_SHOWN = 20;
    // Far above what any test needs, on a slow machine too.
    private static final int MOST_SECONDS = 300;

    private final String test;
    private int calls = 0;
    private int wrong = 0;
    private int shown = 0;
    private volatile String about = "";

    Check(String test) {
        this.test = test;
        Thread watch = new Thread(this::refuseToWaitForEver);
        watch.setDaemon(true);
        watch.start();
    }

    /** A call that does not end fails the test, as a wrong answer does. */
    private void refuseToWaitForEver() {
        try {
            Thread.sleep(MOST_SECONDS * 1000L);
        } catch (InterruptedException e) {
            return;
        }
        System.out.println(test + ": " + about + "a call does not end");
        Runtime.getRuntime().halt(1);
    }

    /** What the answers from now on belong to; it is told with each that is wrong. */
    void about(String text) {
        about = text.isEmpty() ? "" : text + ": ";
        shown = 0;
    }

    void due(String call, long got, long want) {
        calls++;
        if (got != want) {
            report(call + " answered " + got + ", due is " + want);
        }
    }

    void dueText(String call, String got, String want) {
        calls++;
        if (!got.equals(want)) {
            int from = Math.max(0, firstDifference(got, want) - 40);
            report(call + " answered " + cut(got, from) + ", due is " + cut(want, from));
        }
    }

    private static int firstDifference(String a, String b) {
        int i = 0;
        while (i < a.length() && i < b.length() && a.charAt(i) == b.charAt(i)) {
            i++;
        }
        return i;
    }

    /** The part of a long text that is worth reading. */
    private static String cut(String text, int from) {
        String rest = text.substring(Math.min(from, text.length()));
        return (from > 0 ? ".." : "") + (rest.length() > 100 ? rest.substring(0, 100) + ".." : rest);
    }

    /** The very class that the document names is due, not one above or below it. */
    void dueThrow(String call, Class<? extends RuntimeException> want, Runnable body) {
        calls++;
        Class<?> got = null;
        try {
            body.run();
        } catch (RuntimeException e) {
            got = e.getClass();
        }
        if (got != want) {
            report(call + " threw " + got + ", due is " + want);
        }
    }

    void dueIllegalArgument(String call, Runnable body) {
        dueThrow(call, IllegalArgumentException.class, body);
    }

    void dueIllegalState(String call, Runnable body) {
        dueThrow(call, IllegalStateException.class, body);
    }

    void dueUnsupported(String call, Runnable body) {
        dueThrow(call, UnsupportedOperationException.class, body);
    }

    int calls() {
        return calls;
    }

    int wrongs() {
        return wrong;
    }

    private void report(String text) {
        wrong++;
        shown++;
        if (shown <= MOST_SHOWN) {
            System.out.println(test + ": " + about + text);
        }
    }

    void end() {
        System.out.println(test + ": " + calls + " answers looked at, " + wrong + " wrong");
        if (wrong != 0) {
            System.exit(1);
        }
    }
}
