import java.lang.reflect.InvocationTargetException;
import java.lang.reflect.Method;
import java.util.Arrays;

/** Long runs of calls, the same on the program and on the model, with every answer and every exception compared. */
public final class ModelTest {
    private static final int RUNS = 500;
    private static final int CALLS = 512;

    /** A method's name, then what it is given: see argument(). The acts come first. */
    private static final String[] ACTS = {
        "set cst", "go cunb", "copy cc", "swap cc", "pick bc", "shift un", "open cc", "book ccb", "unbook p", "empty",
        "move pun", "stretch pun", "fit cunc", "wish cc", "unwish w", "grant w",
    };
    private static final String[] QUESTIONS = {
        "second c", "nano c", "text c", "order cc", "isBefore cc", "isAfter cc", "same cc2", "apart cc1",
        "calendar 3", "spans", "ofSpan p4", "meets pp", "clashes", "at c", "deepest", "isFree cc", "frees",
        "ofFree f3", "freeAt c", "length 5", "wishes", "ofWish w3", "isApart a", "chosen", "most 1", "crowd", "room w",
        "rooms", "house 2", "knock", "isSound", "digest",
    };
    /** What fills the calendar and the wishes, so that most runs have many of both. */
    private static final String[] FILLING = {"set cst", "set cst", "book ccb", "book ccb", "wish cc", "digest"};

    private static final int[] EDGES = {
        1000000000, -1000000000, 1000000001, -1000000001, 2000000000, -2000000000, 2000000001, -2000000001,
        999999999, -999999999, 999999998, 1999999999, 86400, 86399, -86400, Integer.MIN_VALUE, Integer.MAX_VALUE,
    };

    private final int style;
    private long state;
    private final Spanbooker x = new Spanbooker();
    private final Model model = new Model();

    private ModelTest(int run) {
        style = run % 4;
        state = run * 7919L + 1;
    }

    public static void main(String[] args) {
        for (int run = 0; run < RUNS; run++) {
            new ModelTest(run).go(run);
        }
        Checks.end("ModelTest");
    }

    private void go(int run) {
        for (int call = 0; call < CALLS; call++) {
            String[] some = below(3) == 0 ? ACTS : below(2) == 0 ? FILLING : QUESTIONS;
            compare("run " + run + ", call " + call + ": ", some[below(some.length)]);
        }
    }

    private void compare(String where, String what) {
        int space = what.indexOf(' ');
        String name = space < 0 ? what : what.substring(0, space);
        String kinds = space < 0 ? "" : what.substring(space + 1);
        Object[] given = new Object[kinds.length()];
        Class<?>[] types = new Class<?>[kinds.length()];
        for (int k = 0; k < given.length; k++) {
            boolean isTruth = kinds.charAt(k) == 'b';
            types[k] = isTruth ? boolean.class : int.class;
            given[k] = isTruth ? (Object) (below(2) == 0) : (Object) argument(kinds.charAt(k));
        }
        Object want = outcome(model, name, types, given);
        Checks.same(where + name + Arrays.toString(given), want, outcome(x, name, types, given));
    }

    private static Object outcome(Object on, String name, Class<?>[] types, Object[] given) {
        try {
            Method method = on.getClass().getDeclaredMethod(name, types);
            return method.invoke(on, given);
        } catch (InvocationTargetException e) {
            return e.getCause().getClass();
        } catch (ReflectiveOperationException e) {
            return e;
        }
    }

    /** A fixed row of numbers, so that this test is the same each time. */
    private int below(int bound) {
        state = state * 6364136223846793005L + 1442695040888963407L;
        return (int) ((state >>> 33) % bound);
    }

    private int argument(char kind) {
        switch (kind) {
            case 'c':
                return upTo(3);
            case 's':
                return second();
            case 't':
                return nanos();
            case 'u':
                return style == 0 && below(8) > 0 ? 2 : upTo(2);
            case 'n':
                return howMany();
            case 'p':
                return upTo(model.spans() - 1);
            case 'w':
                return upTo(model.wishes() - 1);
            case 'f':
                return upTo(model.frees() - 1);
            case 'a':
                return upTo((1 << model.wishes()) - 1);
            default:
                return upTo(kind - '0');
        }
    }

    private int edge() {
        return EDGES[below(EDGES.length)];
    }

    private int upTo(int last) {
        if (last >= 0 && below(40) > 0) {
            return below(last + 1);
        }
        return below(3) == 0 ? edge() : below(2) == 0 ? last + 1 : -1;
    }

    /** Style 0 crowds billionths, 1 seconds; 2 is spread over the day; 3 lies at the ends of all that is let. */
    private int second() {
        if (below(60) == 0) {
            return edge();
        }
        if (style == 3) {
            return (below(2) == 0 ? 1000000000 : -1000000000) + below(7) - 3;
        }
        return style == 0 ? 0 : below(style == 1 ? 24 : 86401);
    }

    private int nanos() {
        if (below(30) == 0) {
            return edge();
        }
        return style == 0 ? below(24) : below(6) == 0 ? below(5) - 2 : 0;
    }

    private int howMany() {
        if (below(20) == 0) {
            return edge();
        }
        return below(10) == 0 ? below(200000) - 100000 : below(17) - 8;
    }
}
