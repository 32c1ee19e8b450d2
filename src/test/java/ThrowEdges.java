import java.lang.reflect.InvocationTargetException;
import java.lang.reflect.Method;
import java.util.ArrayList;
import java.util.List;

/**
 * Each Throws line: of each argument the last value that is let and the first one that is not, on both sides, in an
 * object that is new, in one that has some of all, and in one that is full.
 */
final class ThrowEdges {
    private static final int D = Sentences.DESCRIPTION;
    private static final int LAST = 1000000000;
    private static final int MOST = 2000000000;
    private static final int OBJECTS = 4;

    private static final String UNITS = "unit is not 0 to 2, or n not -2000000000 to 2000000000";
    private static final String WISH = "there is no such WISH";
    private static final String SPAN = "there is no such SPAN";
    private static final String CELL = "there is no such CELL";
    private static final String CELLS = "there is no such CELL (both)";

    /**
     * Promise, method, arguments, then what the Throws lines say. Arguments: c a CELL, p the number of a SPAN, w that
     * of a WISH, f that of a FREE one (these are asked for by their index); s a second, t nanos, u a UNIT, n how many,
     * m how many from 1 on, a a set of WISHES, a digit for 0 to that one; b a boolean.
     */
    private static final String[][] ROWS = {
        {"2", "set", "cst", CELL, "second is not -1000000000 to 1000000000, or nanos not -2000000000 to 2000000000"},
        {"3", "go", "cunb", CELL, UNITS},
        {"4", "copy", "cc", CELLS},
        {"5", "swap", "cc", CELLS},
        {"6", "pick", "bc", CELL},
        {"7", "shift", "un", null, UNITS},
        {"8", "open", "cc", CELLS},
        {"9", "book", "ccb", CELLS},
        {"10", "unbook", "p", SPAN},
        {"12", "move", "pun", SPAN, UNITS},
        {"13", "stretch", "pun", SPAN, UNITS},
        {"14", "fit", "cumc", CELLS, "unit is not 0 to 2, or n not 1 to 2000000000"},
        {"15", "wish", "cc", CELLS},
        {"16", "unwish", "w", WISH},
        {"17", "grant", "w", WISH},
        {"18", "second", "c", CELL},
        {"19", "nano", "c", CELL},
        {"20", "text", "c", CELL},
        {"21", "order", "cc", CELLS},
        {"22", "isBefore", "cc", CELLS},
        {"23", "isAfter", "cc", CELLS},
        {"24", "same", "cc2", CELLS, "how is not 0 to 2"},
        {"25", "apart", "cc1", CELLS, "what is not 0 or 1"},
        {"26", "calendar", "3", null, "what is not 0 to 3"},
        {"28", "ofSpan", "p4", SPAN, "what is not 0 to 4"},
        {"29", "meets", "pp", SPAN + " (both)"},
        {"31", "at", "c", CELL},
        {"33", "isFree", "cc", CELLS},
        {"35", "ofFree", "f3", "there is no such FREE one", "what is not 0 to 3"},
        {"36", "freeAt", "c", CELL},
        {"37", "length", "5", null, "what is not 0 to 5"},
        {"39", "ofWish", "w3", WISH, "what is not 0 to 3"},
        {"40", "isApart", "a", null, "set is below 0, or has a number that no WISH has"},
        {"42", "most", "1", null, "how is not 0 or 1"},
        {"44", "room", "w", WISH},
        {"46", "house", "2", null, "what is not 0 to 2"},
    };

    private final String name;
    private final String kinds;
    private final Method method;

    private ThrowEdges(String name, String kinds) throws NoSuchMethodException {
        this.name = name;
        this.kinds = kinds;
        Class<?>[] types = new Class<?>[kinds.length()];
        for (int k = 0; k < types.length; k++) {
            types[k] = kinds.charAt(k) == 'b' ? boolean.class : int.class;
        }
        method = Spanbooker.class.getMethod(name, types);
    }

    static void tell() throws NoSuchMethodException {
        for (String[] row : ROWS) {
            int promise = Integer.parseInt(row[0]);
            ThrowEdges edges = new ThrowEdges(row[1], row[2]);
            if (row[3] != null) {
                Sentences.holds(promise, "Throws IndexOutOfBoundsException if " + row[3], () -> edges.dueEdges(true));
            }
            if (row.length > 4) {
                Sentences.holds(promise, "Throws IllegalArgumentException if " + row[4], () -> edges.dueEdges(false));
            }
            Sentences.holds(D, "A method that throws an exception changes nothing.", edges::dueAllWrong);
            if (row[3] != null && row.length > 4) {
                Sentences.holds(D, "If several exceptions apply, the one that is named first is thrown;",
                        edges::dueTheFirst);
            }
        }
        Sentences.holds(D, "exceptions go ahead of REFUSED.", ThrowEdges::aheadOfRefused);
    }

    /** 0 is new, 1 has some of all, 2 has as much as can be and nothing FREE, 3 has 11 FREE ones. */
    private static Spanbooker object(int which) {
        Spanbooker x = new Spanbooker();
        if (which == 1) {
            x = Made.calendarOf100(10, 30, 60);
            Made.over(x, 35, 50);
            Made.wish(x, 1, 5);
            Made.wish(x, 3, 8);
            x.knock();
            x.wish(0, 0);
        } else if (which == 2) {
            x = Made.fullOfSpans();
            for (int k = 0; k < 8; k++) {
                Made.wish(x, k, 10 + k);
            }
        } else if (which == 3) {
            x = Made.calendar(0, 100);
            for (int k = 0; k < 10; k++) {
                Made.book(x, 9 * k + 5, 9 * k + 6);
            }
        }
        return x;
    }

    private static boolean isIndex(char kind) {
        return "cpwf".indexOf(kind) >= 0;
    }

    private static int least(char kind) {
        switch (kind) {
            case 's':
                return -LAST;
            case 't':
            case 'n':
                return -MOST;
            case 'm':
                return 1;
            default:
                return 0;
        }
    }

    private static int most(Spanbooker x, char kind) {
        switch (kind) {
            case 'c':
                return 3;
            case 'p':
                return x.spans() - 1;
            case 'w':
                return x.wishes() - 1;
            case 'f':
                return x.frees() - 1;
            case 's':
                return LAST;
            case 't':
            case 'n':
            case 'm':
                return MOST;
            case 'u':
                return 2;
            case 'a':
                return (1 << x.wishes()) - 1;
            default:
                return kind - '0';
        }
    }

    private Object outcome(Spanbooker x, int[] given) {
        Object[] all = new Object[given.length];
        for (int k = 0; k < all.length; k++) {
            all[k] = kinds.charAt(k) == 'b' ? (Object) (given[k] == 1) : (Object) given[k];
        }
        try {
            return method.invoke(x, all);
        } catch (InvocationTargetException e) {
            return e.getCause().getClass();
        } catch (IllegalAccessException e) {
            return e;
        }
    }

    private String call(int[] given) {
        StringBuilder call = new StringBuilder(name).append('(');
        for (int k = 0; k < given.length; k++) {
            call.append(k == 0 ? "" : ", ").append(given[k]);
        }
        return call.append(')').toString();
    }

    private void dueThrown(int which, int[] given, Class<?> want) {
        Spanbooker x = object(which);
        long before = x.digest();
        Checks.same(call(given) + " in object " + which, want, outcome(x, given));
        Checks.same("digest() behind it", before, x.digest());
    }

    /** All arguments are let, and as small or as great as that lets them be; null where there is none that is. */
    private int[] fine(int which, boolean isGreat) {
        Spanbooker x = object(which);
        int[] given = new int[kinds.length()];
        for (int k = 0; k < given.length; k++) {
            char kind = kinds.charAt(k);
            int most = kind == 'b' ? 1 : most(x, kind);
            if (most < least(kind)) {
                return null;
            }
            given[k] = isGreat ? most : least(kind);
        }
        return given;
    }

    private static List<Integer> wrong(int which, char kind) {
        int most = most(object(which), kind);
        return new ArrayList<>(List.of(least(kind) - 1, most + 1, Integer.MIN_VALUE, Integer.MAX_VALUE));
    }

    private void dueEdges(boolean isOfIndices) {
        for (int n = 0; n < OBJECTS * kinds.length(); n++) {
            int which = n / kinds.length();
            int place = n % kinds.length();
            char kind = kinds.charAt(place);
            if (kind != 'b' && isIndex(kind) == isOfIndices) {
                dueEdgesAt(which, place, false);
                dueEdgesAt(which, place, true);
            }
        }
    }

    private void dueEdgesAt(int which, int place, boolean isGreat) {
        char kind = kinds.charAt(place);
        int[] given = fine(which, isGreat);
        if (given == null) {
            dueNone(which, place);
            return;
        }
        int most = most(object(which), kind);
        for (int value : new int[] {least(kind), Math.min(least(kind) + 1, most), Math.max(most - 1, least(kind)), most}) {
            given[place] = value;
            Object outcome = outcome(object(which), given);
            Checks.same("whether " + call(given) + " in object " + which + " throws", false, outcome instanceof Class<?>);
        }
        for (int value : wrong(which, kind)) {
            given[place] = value;
            dueThrown(which, given, isIndex(kind) ? Checks.INDEX : Checks.ARGUMENT);
        }
    }

    /** Nothing has a number, so no number is let. */
    private void dueNone(int which, int place) {
        for (int value : new int[] {0, 1, -1, 7, 9, 10, Integer.MIN_VALUE, Integer.MAX_VALUE}) {
            int[] given = new int[kinds.length()];
            given[place] = value;
            dueThrown(which, given, Checks.INDEX);
        }
    }

    private void dueAllWrong() {
        boolean hasIndex = kinds.chars().anyMatch(kind -> isIndex((char) kind));
        for (int n = 0; n < OBJECTS * 4; n++) {
            int which = n / 4;
            int[] given = new int[kinds.length()];
            for (int k = 0; k < given.length; k++) {
                given[k] = kinds.charAt(k) == 'b' ? n % 2 : wrong(which, kinds.charAt(k)).get(n % 4);
            }
            dueThrown(which, given, hasIndex ? Checks.INDEX : Checks.ARGUMENT);
        }
    }

    /** Of each index and each other argument both are wrong, whatever stands first. */
    private void dueTheFirst() {
        for (int n = 0; n < OBJECTS * kinds.length() * kinds.length(); n++) {
            int which = n % OBJECTS;
            int index = n / OBJECTS / kinds.length();
            int other = n / OBJECTS % kinds.length();
            int[] given = fine(which, n % 2 == 0);
            boolean isPair = isIndex(kinds.charAt(index)) && !isIndex(kinds.charAt(other)) && kinds.charAt(other) != 'b';
            if (isPair && given != null) {
                for (int wrongIndex : wrong(which, kinds.charAt(index))) {
                    for (int wrongOther : wrong(which, kinds.charAt(other))) {
                        given[index] = wrongIndex;
                        given[other] = wrongOther;
                        dueThrown(which, given, Checks.INDEX);
                    }
                }
            }
        }
    }

    /** Each call would be REFUSED, were its wrong argument not wrong. */
    private static void aheadOfRefused() {
        Spanbooker x = object(2);
        x.set(2, LAST, 999999999);
        dueAhead(x, "set", Checks.INDEX, () -> x.set(4, LAST, LAST));
        dueAhead(x, "set", Checks.ARGUMENT, () -> x.set(2, LAST + 1, LAST));
        dueAhead(x, "set", Checks.ARGUMENT, () -> x.set(2, LAST, MOST + 1));
        dueAhead(x, "go", Checks.INDEX, () -> x.go(-1, 0, MOST, false));
        dueAhead(x, "go", Checks.ARGUMENT, () -> x.go(2, 3, MOST, false));
        dueAhead(x, "go", Checks.ARGUMENT, () -> x.go(2, 0, MOST + 1, false));
        dueAhead(x, "shift", Checks.ARGUMENT, () -> x.shift(-1, MOST));
        dueAhead(x, "shift", Checks.ARGUMENT, () -> x.shift(0, MOST + 1));
        dueAhead(x, "open", Checks.INDEX, () -> x.open(1, 4));
        dueAhead(x, "open", Checks.INDEX, () -> x.open(-1, 0));
        dueAhead(x, "book", Checks.INDEX, () -> x.book(4, 1, false));
        dueAhead(x, "book", Checks.INDEX, () -> x.book(1, -1, true));
        dueAhead(x, "move", Checks.INDEX, () -> x.move(10, 0, MOST));
        dueAhead(x, "move", Checks.ARGUMENT, () -> x.move(9, 3, MOST));
        dueAhead(x, "move", Checks.ARGUMENT, () -> x.move(9, 0, MOST + 1));
        dueAhead(x, "stretch", Checks.INDEX, () -> x.stretch(10, 0, MOST));
        dueAhead(x, "stretch", Checks.ARGUMENT, () -> x.stretch(9, -1, MOST));
        dueAhead(x, "stretch", Checks.ARGUMENT, () -> x.stretch(9, 0, -MOST - 1));
        dueAhead(x, "fit", Checks.INDEX, () -> x.fit(4, 0, MOST, 0));
        dueAhead(x, "fit", Checks.INDEX, () -> x.fit(0, 0, MOST, 4));
        dueAhead(x, "fit", Checks.ARGUMENT, () -> x.fit(0, 3, MOST, 0));
        dueAhead(x, "fit", Checks.ARGUMENT, () -> x.fit(0, 2, 0, 0));
        dueAhead(x, "fit", Checks.ARGUMENT, () -> x.fit(0, 0, MOST + 1, 0));
        dueAhead(x, "wish", Checks.INDEX, () -> x.wish(4, 0));
        dueAhead(x, "wish", Checks.INDEX, () -> x.wish(0, -1));
        dueAhead(x, "grant", Checks.INDEX, () -> x.grant(8));
        dueAhead(x, "grant", Checks.INDEX, () -> x.grant(-1));
    }

    private static void dueAhead(Spanbooker x, String what, Class<?> want, Checks.Call call) {
        Checks.dueThrown(x, what + " that would be REFUSED", want, call);
    }
}
