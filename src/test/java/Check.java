/** Counts answers that are not as due; a test's main method ends with Check.end(). */
final class Check {
    private static int wrong = 0;
    private static int checked = 0;
    private static String sentence = "";

    private Check() {
    }

    /** A call that may throw. */
    interface Call {
        void run();
    }

    /** The words of a promise (0: those ahead of promise 1) by which the answers behind this call are due. */
    static void says(int promise, String words) {
        sentence = "[" + promise + ": " + words + "] ";
        holds("these words of the document", Document.section(promise).contains(words));
    }

    static void due(String what, long got, long due) {
        checked++;
        if (got != due) {
            wrong++;
            System.out.println(sentence + what + " answered " + got + ", due is " + due);
        }
    }

    static void holds(String what, boolean held) {
        due(what, held ? 1 : 0, 1);
    }

    /** The exception has to be of just this class, and thrown by the program, not by the machine or the library. */
    static void fails(String what, Class<? extends RuntimeException> due, Call call) {
        Class<?> got = null;
        boolean own = false;
        try {
            call.run();
        } catch (RuntimeException e) {
            StackTraceElement[] at = e.getStackTrace();
            got = e.getClass();
            own = at.length > 0 && at[0].getClassName().startsWith("Keyterrace");
        }
        checked++;
        if (got != due || !own) {
            wrong++;
            System.out.println(sentence + what + " threw " + got + (own ? "" : ", not by itself") + ", due is " + due);
        }
    }

    static void noPlace(String what, Call call) {
        fails(what, IndexOutOfBoundsException.class, call);
    }

    static void noArgument(String what, Call call) {
        fails(what, IllegalArgumentException.class, call);
    }

    static void noState(String what, Call call) {
        fails(what, IllegalStateException.class, call);
    }

    static void end() {
        System.out.println(checked + " answers, " + wrong + " not as due");
        if (wrong != 0) {
            System.exit(1);
        }
    }
}
