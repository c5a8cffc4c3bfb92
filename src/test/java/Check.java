/** Counts answers that are not as due and tells them. */
final class Check {
    static final String INDEX = "throws.IndexOutOfBoundsException";
    static final String STATE = "throws.IllegalStateException";
    static final String ARGUMENT = "throws.IllegalArgumentException";
    static final String DONE = "done";

    private static int asked = 0;
    private static int wrong = 0;
    private static String about = "";

    private Check() {
    }

    interface Call {
        long answer();
    }

    interface Order {
        void carryOut();
    }

    /** The answer of a call as a text; the exception's own class counts, not one above it. */
    static String said(Call call) {
        try {
            return Long.toString(call.answer());
        } catch (RuntimeException thrown) {
            return "throws." + thrown.getClass().getSimpleName();
        }
    }

    static String said(Order order) {
        try {
            order.carryOut();
            return DONE;
        } catch (RuntimeException thrown) {
            return "throws." + thrown.getClass().getSimpleName();
        }
    }

    static void due(String what, long want, Call call) {
        same(what, Long.toString(want), said(call));
    }

    static void due(String what, String want, Call call) {
        same(what, want, said(call));
    }

    static void same(String what, String want, String got) {
        asked++;
        if (!want.equals(got)) {
            wrong++;
            System.out.println(about + what + " answered " + got + ", due is " + want);
        }
    }

    /** A test of its own for one sentence of the document; it must ask something, and not throw. */
    static void sentence(String words, Order test) {
        about = "\"" + words + "\": ";
        int before = asked;
        same("the test", DONE, said(test));
        if (asked == before + 1) {
            same("the test", "an answer", "nothing");
        }
        about = "";
    }

    static int wrongSoFar() {
        return wrong;
    }

    static void end(String test) {
        System.out.println(test + ": " + asked + " answers, " + wrong + " not as due");
        if (wrong != 0 || asked == 0) {
            System.exit(1);
        }
    }
}
