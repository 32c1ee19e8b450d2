/**
 * Objects for the tests of edges, and what they tell, by COUNTS: in a calendar of some billionths each neighbour of a
 * number is the next MOMENT, or the last one.
 */
final class Made {
    private Made() {
    }

    /** CELLS with these COUNTS. */
    static Spanbooker cells(int... counts) {
        Spanbooker x = new Spanbooker();
        for (int cell = 0; cell < counts.length; cell++) {
            x.set(cell, 0, counts[cell]);
        }
        return x;
    }

    /** FROM is in cell 0, UNTIL in cell 1. */
    static Spanbooker calendar(int from, int until) {
        Spanbooker x = cells(from, until);
        x.open(0, 1);
        return x;
    }

    /** With SPANS of ten billionths that begin there, none of them booked OVER. */
    static Spanbooker calendarOf100(int... begins) {
        Spanbooker x = calendar(0, 100);
        for (int begin : begins) {
            book(x, begin, begin + 10);
        }
        return x;
    }

    static Spanbooker fullOfSpans() {
        return calendarOf100(0, 10, 20, 30, 40, 50, 60, 70, 80, 90);
    }

    /** All eight MEET. */
    static Spanbooker fullOfWishes() {
        Spanbooker x = calendar(0, 100);
        for (int k = 0; k < 8; k++) {
            wish(x, k, 10 + k);
        }
        return x;
    }

    static Spanbooker wishing(int... wishes) {
        Spanbooker x = new Spanbooker();
        for (int k = 0; k + 1 < wishes.length; k += 2) {
            wish(x, wishes[k], wishes[k + 1]);
        }
        return x;
    }

    /** From the first MOMENT that is LET to the last one, which are in the cells 0 and 1. */
    static Spanbooker wholeLine() {
        Spanbooker x = new Spanbooker();
        x.set(0, -1000000000, 0);
        x.set(1, 1000000000, 999999999);
        x.open(0, 1);
        return x;
    }

    static void put(Spanbooker x, int one, int other) {
        x.set(2, 0, one);
        x.set(3, 0, other);
    }

    static int book(Spanbooker x, int begin, int end) {
        put(x, begin, end);
        return x.book(2, 3, false);
    }

    static int over(Spanbooker x, int begin, int end) {
        put(x, begin, end);
        return x.book(2, 3, true);
    }

    static int wish(Spanbooker x, int begin, int end) {
        put(x, begin, end);
        return x.wish(2, 3);
    }

    private static String count(int second, int nano) {
        return String.valueOf(second * 1000000000L + nano);
    }

    static String cells(Spanbooker x) {
        StringBuilder all = new StringBuilder();
        for (int cell = 0; cell < 4; cell++) {
            all.append(cell == 0 ? "" : " ").append(count(x.second(cell), x.nano(cell)));
        }
        return all.toString();
    }

    static String calendar(Spanbooker x) {
        return count(x.calendar(0), x.calendar(1)) + ".." + count(x.calendar(2), x.calendar(3));
    }

    /** As "10..20 30..40+"; the + is behind one that was booked OVER. */
    static String spans(Spanbooker x) {
        StringBuilder all = new StringBuilder();
        for (int k = 0; k < x.spans(); k++) {
            all.append(k == 0 ? "" : " ").append(count(x.ofSpan(k, 0), x.ofSpan(k, 1)));
            all.append("..").append(count(x.ofSpan(k, 2), x.ofSpan(k, 3)));
            all.append(x.ofSpan(k, 4) == 1 ? "+" : "");
        }
        return all.toString();
    }

    static String frees(Spanbooker x) {
        StringBuilder all = new StringBuilder();
        for (int k = 0; k < x.frees(); k++) {
            all.append(k == 0 ? "" : " ").append(count(x.ofFree(k, 0), x.ofFree(k, 1)));
            all.append("..").append(count(x.ofFree(k, 2), x.ofFree(k, 3)));
        }
        return all.toString();
    }

    static String wishes(Spanbooker x) {
        StringBuilder all = new StringBuilder();
        for (int k = 0; k < x.wishes(); k++) {
            all.append(k == 0 ? "" : " ").append(count(x.ofWish(k, 0), x.ofWish(k, 1)));
            all.append("..").append(count(x.ofWish(k, 2), x.ofWish(k, 3)));
        }
        return all.toString();
    }

    static String rooms(Spanbooker x) {
        StringBuilder all = new StringBuilder();
        for (int k = 0; k < x.wishes(); k++) {
            all.append(k == 0 ? "" : " ").append(x.room(k));
        }
        return all.toString();
    }

    /** The LENGTH of what is TAKEN, of what is FREE and of the CALENDAR. */
    static String lengths(Spanbooker x) {
        return count(x.length(0), x.length(1)) + " " + count(x.length(2), x.length(3)) + " "
                + count(x.length(4), x.length(5));
    }
}
