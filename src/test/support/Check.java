/** What the tests have in common: it prints every answer that is not the one that is due. */
final class Check {
    private static final Class<?>[] KINDS = {
        IllegalArgumentException.class, IllegalStateException.class, IndexOutOfBoundsException.class
    };
    static final String ARGUMENT = "IllegalArgumentException";
    static final String STATE = "IllegalStateException";
    static final String INDEX = "IndexOutOfBoundsException";

    private static String subject = "";
    private static int wrong = 0;
    private static int looked = 0;

    private Check() {
    }

    interface Call {
        long answer();
    }

    /** Tells what the answers looked at from now on are about; it is printed with each wrong one. */
    static void about(String what) {
        subject = what + ": ";
    }

    /** Returns the answer as a text, or the simple name of what was thrown. */
    static String outcome(Call call) {
        try {
            return Long.toString(call.answer());
        } catch (RuntimeException e) {
            // The exact class counts: a kind below one of these would come from the machine.
            for (Class<?> kind : KINDS) {
                if (e.getClass() == kind) {
                    return kind.getSimpleName();
                }
            }
            return e.toString();
        }
    }

    static void due(String what, long want, Call call) {
        same(what, Long.toString(want), outcome(call));
    }

    static void thrown(String what, String want, Call call) {
        same(what, want, outcome(call));
    }

    static void same(String what, String want, String got) {
        looked++;
        if (!want.equals(got)) {
            wrong++;
            System.out.println(subject + what + " answered " + got + ", due is " + want);
        }
    }

    static void end() {
        System.out.println(looked + " answers looked at, " + wrong + " not as due");
        if (wrong != 0 || looked == 0) {
            System.exit(1);
        }
    }
}
