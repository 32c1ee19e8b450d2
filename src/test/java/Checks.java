/** Counts which calls answer as is due; what is due may be an exception's class. */
final class Checks {
    static final Class<?> INDEX = IndexOutOfBoundsException.class;
    static final Class<?> ARGUMENT = IllegalArgumentException.class;
    static final int REFUSED = -9;
    static final int NONE = -1;

    /** In digest() the acts, the refusals, the knocks and isSound() come last: what one more of these adds to it. */
    private static final long ONE_MORE_ACT = 31L * 31L * 31L;
    private static final long ONE_MORE_REFUSAL = 31L * 31L;

    private static int passed = 0;
    private static int failed = 0;
    private static String where = "";

    interface Call {
        Object answer();
    }

    private Checks() {
    }

    /** The answer, or the very class of what was thrown. */
    static Object outcome(Call call) {
        try {
            return call.answer();
        } catch (RuntimeException e) {
            return e.getClass();
        }
    }

    static void due(String what, Object want, Call call) {
        same(what, want, outcome(call));
    }

    static void same(String what, Object want, Object got) {
        if (want.equals(got)) {
            passed++;
        } else {
            failed++;
            if (failed <= 20) {
                System.out.println(where + what + " answered " + got + ", due is " + want);
            }
        }
    }

    /** What is looked at from here on is told with this ahead of it. */
    static void under(String heading) {
        where = heading;
    }

    static int count() {
        return passed + failed;
    }

    /** The call throws that, and nothing in the object is other by it. */
    static void dueThrown(Spanbooker x, String what, Class<?> want, Call call) {
        long before = x.digest();
        due(what, want, call);
        same("digest() after " + what, before, x.digest());
    }

    /** The call is REFUSED, is counted as that and not as an act, and leaves all else as it was. */
    static void dueRefused(Spanbooker x, String what, Call call) {
        long before = x.digest();
        int acts = x.house(0);
        int refusals = x.house(1);
        due(what, REFUSED, call);
        same("digest() after " + what, before + ONE_MORE_REFUSAL, x.digest());
        same("house(0) after " + what, acts, x.house(0));
        same("house(1) after " + what, refusals + 1, x.house(1));
    }

    /** The call is one act that answers that. */
    static void dueAct(Spanbooker x, String what, Object want, Call call) {
        int acts = x.house(0);
        int refusals = x.house(1);
        due(what, want, call);
        same("house(0) after " + what, acts + 1, x.house(0));
        same("house(1) after " + what, refusals, x.house(1));
    }

    /** The call is one act that answers that, and nothing is other by it but that it is counted. */
    static void dueIdle(Spanbooker x, String what, Object want, Call call) {
        long before = x.digest();
        dueAct(x, what, want, call);
        same("digest() after " + what, before + ONE_MORE_ACT, x.digest());
    }

    /** The call answers that, also when nothing else was asked ahead of it, and nothing at all is other by it. */
    static void dueAsked(Spanbooker x, String what, Object want, Call call) {
        due(what, want, call);
        long before = x.digest();
        due(what + " again", want, call);
        same("digest() after " + what, before, x.digest());
    }

    static void end(String test) {
        System.out.println(test + ": " + passed + " passed, " + failed + " failed");
        if (failed > 0) {
            System.exit(1);
        }
    }
}
