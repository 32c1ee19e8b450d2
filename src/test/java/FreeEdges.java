/** The edges of SPANS and of what is FREE: the description's second part, promises 26 to 37. */
final class FreeEdges {
    private static final int D = Sentences.DESCRIPTION;
    private static final int LAST = 1000000000;

    private FreeEdges() {
    }

    static void tell() {
        tellDescription();
        tellSpans();
        tellFrees();
    }

    private static void tellDescription() {
        Sentences.holds(D, "What lies from one MOMENT (its begin) to a later one (its end) has all MOMENTS that are not earlier"
                + " than its begin, and earlier than its end.", FreeEdges::hasItsBeginAndNotItsEnd);
        Sentences.holds(D, "Two such MEET, if each begins earlier than the other one ends.", FreeEdges::meetByABillionth);
        Sentences.holds(D, "It is in the CALENDAR, if its begin is not earlier than FROM, and its end not later than UNTIL.",
                FreeEdges::inTheCalendarToItsEnds);
        Sentences.holds(D, "The CALENDAR lies from FROM to UNTIL, at first from the SECOND 0 to the SECOND 86400 (NANO 0 both).",
                FreeEdges::firstCalendar);
        Sentences.holds(D, "In it are SPANS, at most 10 (none at first), numbered from 0 as they came,",
                FreeEdges::spansFrom0To10);
        Sentences.holds(D, "each with a begin, an end, and whether it was booked OVER; this stays as it is told, whatever comes.",
                FreeEdges::overStays);
        Sentences.holds(D, "TAKEN are all MOMENTS of the CALENDAR that are in a SPAN (or in several).",
                FreeEdges::takenOnce);
        Sentences.holds(D, "FREE ones are the pieces of the CALENDAR that have no MOMENT that is TAKEN, each as long as it can be,"
                + " numbered from 0, the earliest first.", FreeEdges::freesAreLongAndInOrder);
        Sentences.holds(D, "A MOMENT FITS a length of n UNITS from another MOMENT on, if it is not earlier than that one, and what"
                + " lies from it to the MOMENT n UNITS later is in the CALENDAR and MEETS no SPAN.", FreeEdges::fitsToTheEnds);
    }

    private static void tellSpans() {
        Sentences.holds(26, "- what: 0 the SECOND of FROM, 1 its NANO, 2 the SECOND of UNTIL, 3 its NANO",
                FreeEdges::calendarEachPart);
        Sentences.holds(26, "Returns that.", FreeEdges::calendarAtTheEnds);
        Sentences.holds(27, "Returns how many SPANS there are.", FreeEdges::spansFrom0To10);
        Sentences.holds(28, "- what: 0 the SECOND of its begin, 1 its NANO, 2 the SECOND of its end, 3 its NANO, 4 1 if it was"
                + " booked OVER, otherwise 0", FreeEdges::ofSpanEachPart);
        Sentences.holds(28, "Returns that.", FreeEdges::ofSpanAtTheEnds);
        Sentences.holds(29, "- other: the number of a SPAN, or the same", FreeEdges::meetsItself);
        Sentences.holds(29, "Returns whether both MEET (each MEETS itself).", FreeEdges::meetByABillionth);
        Sentences.holds(30, "Returns how many pairs of two SPANS MEET.", FreeEdges::clashesFrom0To45);
        Sentences.holds(31, "Returns of the SPANS that have its MOMENT the one with the smallest number;",
                FreeEdges::atTheSmallestNumber);
        Sentences.holds(31, "NONE without.", FreeEdges::atNone);
        Sentences.holds(32, "Returns how many SPANS at most have one MOMENT in common.", FreeEdges::deepestFrom0To10);
        Sentences.holds(33, "- other: a CELL, or the same", FreeEdges::isFreeOfOne);
        Sentences.holds(33, "Returns whether the MOMENT of the first one is earlier,", FreeEdges::isFreeBackwards);
        Sentences.holds(33, "and what lies from it to that of the other one is in the CALENDAR",
                FreeEdges::isFreeToTheEnds);
        Sentences.holds(33, "and MEETS no SPAN.", FreeEdges::isFreeByABillionth);
    }

    private static void tellFrees() {
        Sentences.holds(34, "Returns how many FREE ones there are.", FreeEdges::freesFrom0To11);
        Sentences.holds(35, "- what: 0 the SECOND of its begin, 1 its NANO, 2 the SECOND of its end, 3 its NANO",
                FreeEdges::ofFreeEachPart);
        Sentences.holds(35, "Returns that.", FreeEdges::ofFreeAtTheEnds);
        Sentences.holds(36, "Returns the FREE one that has its MOMENT;", FreeEdges::freeAtItsEnds);
        Sentences.holds(36, "NONE without.", FreeEdges::freeAtNone);
        Sentences.holds(37, "- what: 0 SECONDS, 1 NANOS of all that is TAKEN together; 2, 3 of all that is FREE; 4, 5 of the"
                + " CALENDAR", FreeEdges::lengthEachPart);
        Sentences.holds(37, "Returns of that LENGTH.", FreeEdges::lengthsFromNoneToAll);
    }

    private static void dueAt(Spanbooker x, int count, int want) {
        x.set(2, 0, count);
        Checks.dueAsked(x, "at " + count, want, () -> x.at(2));
    }

    private static void dueFreeAt(Spanbooker x, int count, int want) {
        x.set(2, 0, count);
        Checks.dueAsked(x, "freeAt " + count, want, () -> x.freeAt(2));
    }

    private static void dueIsFree(Spanbooker x, int begin, int end, boolean want) {
        Made.put(x, begin, end);
        Checks.dueAsked(x, "isFree " + begin + ".." + end, want, () -> x.isFree(2, 3));
    }

    private static void dueFrees(Spanbooker x, String want) {
        Checks.same("frees", want, Made.frees(x));
        Checks.dueAsked(x, "frees()", want.isEmpty() ? 0 : want.split(" ").length, x::frees);
    }

    private static void dueLengths(Spanbooker x, String want) {
        Checks.same("lengths", want, Made.lengths(x));
    }

    private static void hasItsBeginAndNotItsEnd() {
        Spanbooker x = Made.calendarOf100(10);
        dueAt(x, 9, Checks.NONE);
        dueAt(x, 10, 0);
        dueAt(x, 19, 0);
        dueAt(x, 20, Checks.NONE);
        Made.book(x, 30, 31);
        dueAt(x, 29, Checks.NONE);
        dueAt(x, 30, 1);
        dueAt(x, 31, Checks.NONE);
        Spanbooker whole = Made.wholeLine();
        whole.book(0, 1, false);
        Checks.dueAsked(whole, "at the first MOMENT", 0, () -> whole.at(0));
        Checks.dueAsked(whole, "at the last MOMENT", Checks.NONE, () -> whole.at(1));
    }

    /** A SPAN 10..20 and each of these, which MEETS it or not. */
    private static final int[] WITH_10_TO_20 = {10, 20, 9, 11, 19, 21, 10, 11, 19, 20, 12, 15, 5, 30, 0, 11, 19, 100};
    private static final int[] BESIDE_10_TO_20 = {9, 10, 20, 21, 0, 10, 20, 100, 0, 5, 30, 40};

    private static void meetByABillionth() {
        for (int k = 0; k < WITH_10_TO_20.length; k += 2) {
            dueMeet(WITH_10_TO_20[k], WITH_10_TO_20[k + 1], true);
        }
        for (int k = 0; k < BESIDE_10_TO_20.length; k += 2) {
            dueMeet(BESIDE_10_TO_20[k], BESIDE_10_TO_20[k + 1], false);
        }
    }

    private static void dueMeet(int begin, int end, boolean want) {
        Spanbooker x = Made.calendarOf100(10);
        Made.over(x, begin, end);
        Checks.dueAsked(x, "meets of 10..20 and " + begin + ".." + end, want, () -> x.meets(0, 1));
        Checks.dueAsked(x, "meets of " + begin + ".." + end + " and 10..20", want, () -> x.meets(1, 0));
        Checks.dueAsked(x, "clashes()", want ? 1 : 0, x::clashes);
    }

    private static void inTheCalendarToItsEnds() {
        Spanbooker x = Made.calendar(10, 20);
        dueIsFree(x, 10, 20, true);
        dueIsFree(x, 9, 20, false);
        dueIsFree(x, 10, 21, false);
        Checks.same("book 9..20", Checks.REFUSED, Made.over(x, 9, 20));
        Checks.same("book 10..21", Checks.REFUSED, Made.over(x, 10, 21));
        Checks.same("book 10..20", 0, Made.over(x, 10, 20));
    }

    private static void firstCalendar() {
        Spanbooker x = new Spanbooker();
        int[] want = {0, 0, 86400, 0};
        for (int k = 0; k < 4; k++) {
            int what = k;
            Checks.dueAsked(x, "calendar(" + k + ")", want[k], () -> x.calendar(what));
        }
        x.set(1, 86400, 0);
        Checks.dueAsked(x, "isFree", true, () -> x.isFree(0, 1));
        x.go(0, 2, 1, true);
        Checks.dueAsked(x, "isFree from a billionth ahead of it", false, () -> x.isFree(0, 1));
        x.set(0, 0, 0);
        x.go(1, 2, 1, false);
        Checks.dueAsked(x, "isFree to a billionth behind it", false, () -> x.isFree(0, 1));
    }

    private static void spansFrom0To10() {
        Spanbooker x = Made.calendar(0, 100);
        for (int k = 0; k < 10; k++) {
            int count = k;
            Checks.dueAsked(x, "spans()", count, x::spans);
            Checks.dueThrown(x, "ofSpan(" + k + ", 0)", Checks.INDEX, () -> x.ofSpan(count, 0));
            Checks.same("book", k, Made.over(x, 90 - k, 100));
            Checks.dueAsked(x, "its NANO", 90 - k, () -> x.ofSpan(count, 1));
        }
        Checks.dueAsked(x, "spans()", 10, x::spans);
        Checks.same("book the eleventh", Checks.REFUSED, Made.over(x, 0, 100));
        Checks.dueAsked(x, "spans()", 10, x::spans);
        Checks.dueThrown(x, "ofSpan(10, 0)", Checks.INDEX, () -> x.ofSpan(10, 0));
    }

    private static void overStays() {
        Spanbooker x = Made.calendarOf100(10, 60);
        Made.over(x, 15, 30);
        Made.over(x, 40, 50);
        Checks.same("spans", "10..20 60..70 15..30+ 40..50+", Made.spans(x));
        x.unbook(0);
        Checks.same("when the one it met is gone", "60..70 15..30+ 40..50+", Made.spans(x));
        x.move(1, 2, 1);
        x.stretch(2, 2, 1);
        x.move(0, 2, 1);
        Checks.same("when they went on", "61..71 16..31+ 40..51+", Made.spans(x));
        Made.over(x, 0, 100);
        x.shift(2, 5);
        Checks.same("when one more is over all", "66..76 21..36+ 45..56+ 5..105+", Made.spans(x));
        x.unbook(1);
        Checks.same("when one is gone", "66..76 45..56+ 5..105+", Made.spans(x));
        x.unbook(1);
        x.unbook(1);
        Made.book(x, 10, 20);
        Checks.same("when one comes where another was", "66..76 10..20", Made.spans(x));
        x.empty();
        Made.book(x, 10, 20);
        Made.over(x, 20, 30);
        Made.wish(x, 40, 50);
        x.grant(0);
        Checks.same("when new ones came", "10..20 20..30+ 40..50", Made.spans(x));
    }

    private static void takenOnce() {
        Spanbooker x = Made.calendarOf100(10);
        dueLengths(x, "10 90 100");
        Made.over(x, 10, 20);
        dueLengths(x, "10 90 100");
        Made.over(x, 19, 25);
        dueLengths(x, "15 85 100");
        Made.over(x, 25, 26);
        dueLengths(x, "16 84 100");
        Made.over(x, 9, 12);
        dueLengths(x, "17 83 100");
        Made.over(x, 0, 100);
        dueLengths(x, "100 0 100");
    }

    private static void freesAreLongAndInOrder() {
        Spanbooker x = Made.calendar(0, 100);
        dueFrees(x, "0..100");
        Made.book(x, 60, 70);
        dueFrees(x, "0..60 70..100");
        Made.book(x, 20, 30);
        dueFrees(x, "0..20 30..60 70..100");
        Made.book(x, 30, 40);
        dueFrees(x, "0..20 40..60 70..100");
        Made.over(x, 35, 45);
        dueFrees(x, "0..20 45..60 70..100");
        Made.over(x, 22, 28);
        dueFrees(x, "0..20 45..60 70..100");
        Made.book(x, 1, 20);
        dueFrees(x, "0..1 45..60 70..100");
        Made.book(x, 70, 99);
        dueFrees(x, "0..1 45..60 99..100");
        Made.book(x, 0, 1);
        dueFrees(x, "45..60 99..100");
        Made.book(x, 99, 100);
        dueFrees(x, "45..60");
        Made.book(x, 45, 60);
        dueFrees(x, "");
    }

    private static void fitsToTheEnds() {
        Spanbooker x = Made.calendarOf100(40);
        Made.put(x, 30, 0);
        Checks.due("fit of what is ahead of a SPAN", 1, () -> x.fit(2, 2, 10, 3));
        Checks.due("where", 30, () -> x.nano(3));
        Checks.due("fit of a billionth more", 1, () -> x.fit(2, 2, 11, 3));
        Checks.due("where", 50, () -> x.nano(3));
        Checks.due("fit of what is left to UNTIL", 0, () -> x.fit(2, 2, 50, 3));
        Checks.dueRefused(x, "fit of a billionth more", () -> x.fit(2, 2, 51, 3));
    }

    private static void calendarEachPart() {
        Spanbooker x = new Spanbooker();
        x.set(0, -7, 1);
        x.set(1, 9, 2);
        x.open(0, 1);
        int[] want = {-7, 1, 9, 2};
        for (int k = 0; k < 4; k++) {
            int what = k;
            Checks.dueAsked(x, "calendar(" + k + ")", want[k], () -> x.calendar(what));
        }
        Checks.dueThrown(x, "calendar(-1)", Checks.ARGUMENT, () -> x.calendar(-1));
        Checks.dueThrown(x, "calendar(4)", Checks.ARGUMENT, () -> x.calendar(4));
    }

    private static void calendarAtTheEnds() {
        Spanbooker x = Made.wholeLine();
        int[] want = {-LAST, 0, LAST, 999999999};
        for (int k = 0; k < 4; k++) {
            int what = k;
            Checks.dueAsked(x, "calendar(" + k + ")", want[k], () -> x.calendar(what));
        }
        Spanbooker y = Made.calendar(-1, 0);
        Checks.dueAsked(y, "calendar(0)", -1, () -> y.calendar(0));
        Checks.dueAsked(y, "calendar(1)", 999999999, () -> y.calendar(1));
    }

    private static void ofSpanEachPart() {
        Spanbooker x = new Spanbooker();
        x.set(0, -7, 1);
        x.set(1, 9, 2);
        x.open(0, 1);
        x.book(0, 1, false);
        x.set(2, -3, 5);
        x.set(3, 4, 6);
        x.book(2, 3, true);
        int[] want = {-7, 1, 9, 2, 0, -3, 5, 4, 6, 1};
        for (int n = 0; n < 10; n++) {
            int k = n / 5;
            int what = n % 5;
            Checks.dueAsked(x, "ofSpan(" + k + ", " + what + ")", want[n], () -> x.ofSpan(k, what));
        }
        Checks.dueThrown(x, "ofSpan(0, -1)", Checks.ARGUMENT, () -> x.ofSpan(0, -1));
        Checks.dueThrown(x, "ofSpan(1, 5)", Checks.ARGUMENT, () -> x.ofSpan(1, 5));
    }

    private static void ofSpanAtTheEnds() {
        Spanbooker x = Made.wholeLine();
        x.book(0, 1, false);
        int[] want = {-LAST, 0, LAST, 999999999, 0};
        for (int k = 0; k < 5; k++) {
            int what = k;
            Checks.dueAsked(x, "ofSpan(0, " + k + ")", want[k], () -> x.ofSpan(0, what));
        }
    }

    private static void meetsItself() {
        Spanbooker x = Made.fullOfSpans();
        for (int n = 0; n < 10; n++) {
            int k = n;
            Checks.dueAsked(x, "meets of " + n + " and itself", true, () -> x.meets(k, k));
        }
        Checks.dueAsked(x, "meets of two that touch", false, () -> x.meets(0, 1));
        Spanbooker one = Made.calendar(0, 100);
        Made.book(one, 10, 11);
        Checks.dueAsked(one, "meets of a billionth and itself", true, () -> one.meets(0, 0));
    }

    private static void clashesFrom0To45() {
        Spanbooker none = new Spanbooker();
        Checks.dueAsked(none, "clashes() of none", 0, none::clashes);
        Spanbooker full = Made.fullOfSpans();
        Checks.dueAsked(full, "clashes() of 10 that touch", 0, full::clashes);
        Spanbooker x = Made.calendar(0, 100);
        int[] pairs = {0, 1, 3, 6, 10, 15, 21, 28, 36, 45};
        for (int k = 0; k < 10; k++) {
            Made.over(x, k, k + 10);
            Checks.dueAsked(x, "clashes()", pairs[k], x::clashes);
        }
        x.empty();
        Made.over(x, 0, 10);
        Made.over(x, 9, 20);
        Made.over(x, 19, 30);
        Checks.dueAsked(x, "clashes() of a chain", 2, x::clashes);
    }

    private static void atTheSmallestNumber() {
        Spanbooker x = Made.calendarOf100(40);
        Made.over(x, 30, 60);
        Made.over(x, 0, 100);
        Made.over(x, 45, 70);
        dueAt(x, 0, 2);
        dueAt(x, 29, 2);
        dueAt(x, 30, 1);
        dueAt(x, 39, 1);
        dueAt(x, 40, 0);
        dueAt(x, 49, 0);
        dueAt(x, 50, 1);
        dueAt(x, 60, 2);
        dueAt(x, 99, 2);
        x.unbook(2);
        dueAt(x, 60, 2);
        dueAt(x, 69, 2);
        dueAt(x, 70, Checks.NONE);
        Spanbooker full = Made.fullOfSpans();
        dueAt(full, 99, 9);
        dueAt(full, 90, 9);
        dueAt(full, 89, 8);
    }

    private static void atNone() {
        Spanbooker x = Made.calendarOf100(0, 90);
        dueAt(x, -1, Checks.NONE);
        dueAt(x, 0, 0);
        dueAt(x, 10, Checks.NONE);
        dueAt(x, 89, Checks.NONE);
        dueAt(x, 99, 1);
        dueAt(x, 100, Checks.NONE);
        x.set(2, LAST, 999999999);
        Checks.dueAsked(x, "at the last MOMENT", Checks.NONE, () -> x.at(2));
        x.set(2, -LAST, 0);
        Checks.dueAsked(x, "at the first MOMENT", Checks.NONE, () -> x.at(2));
        x.set(2, 1, 5);
        Checks.dueAsked(x, "at a SECOND later", Checks.NONE, () -> x.at(2));
    }

    private static void deepestFrom0To10() {
        Spanbooker full = Made.fullOfSpans();
        Checks.dueAsked(full, "deepest() of 10 that touch", 1, full::deepest);
        Spanbooker x = Made.calendar(0, 100);
        for (int k = 0; k < 10; k++) {
            Checks.dueAsked(x, "deepest()", k, x::deepest);
            Made.over(x, 20 - k, 21 + k);
        }
        Checks.dueAsked(x, "deepest()", 10, x::deepest);
        x.empty();
        Made.over(x, 10, 20);
        Made.over(x, 19, 30);
        Made.over(x, 29, 40);
        Checks.dueAsked(x, "deepest() of a chain", 2, x::deepest);
        Made.over(x, 18, 19);
        Checks.dueAsked(x, "deepest() ahead of where two MEET", 2, x::deepest);
        Made.over(x, 19, 20);
        Checks.dueAsked(x, "deepest() where two MEET", 3, x::deepest);
    }

    private static void isFreeOfOne() {
        Spanbooker x = new Spanbooker();
        x.set(3, 10, 0);
        for (int k = 0; k < 4; k++) {
            int cell = k;
            Checks.dueAsked(x, "isFree of one", false, () -> x.isFree(cell, cell));
        }
    }

    private static void isFreeBackwards() {
        Spanbooker x = Made.calendar(0, 100);
        dueIsFree(x, 50, 51, true);
        dueIsFree(x, 50, 50, false);
        dueIsFree(x, 51, 50, false);
        dueIsFree(x, 100, 0, false);
        dueIsFree(x, 0, 100, true);
    }

    private static void isFreeToTheEnds() {
        Spanbooker x = Made.calendar(10, 20);
        dueIsFree(x, 10, 11, true);
        dueIsFree(x, 9, 11, false);
        dueIsFree(x, 9, 10, false);
        dueIsFree(x, 19, 20, true);
        dueIsFree(x, 19, 21, false);
        dueIsFree(x, 20, 21, false);
        dueIsFree(x, 9, 21, false);
        dueIsFree(x, 0, 5, false);
        dueIsFree(x, 25, 30, false);
    }

    private static void isFreeByABillionth() {
        Spanbooker x = Made.calendarOf100(40);
        Made.over(x, 60, 70);
        dueIsFree(x, 30, 40, true);
        dueIsFree(x, 30, 41, false);
        dueIsFree(x, 50, 60, true);
        dueIsFree(x, 49, 60, false);
        dueIsFree(x, 50, 61, false);
        dueIsFree(x, 69, 80, false);
        dueIsFree(x, 70, 100, true);
        dueIsFree(x, 40, 50, false);
        dueIsFree(x, 44, 45, false);
        dueIsFree(x, 39, 51, false);
        dueIsFree(x, 0, 100, false);
    }

    private static void freesFrom0To11() {
        Spanbooker x = Made.calendar(0, 100);
        Checks.dueAsked(x, "frees() of an empty calendar", 1, x::frees);
        for (int k = 0; k < 10; k++) {
            Made.book(x, 9 * k + 5, 9 * k + 6);
            Checks.dueAsked(x, "frees()", k + 2, x::frees);
        }
        x.empty();
        x.book(0, 1, false);
        Checks.dueAsked(x, "frees() of a filled calendar", 0, x::frees);
        Checks.dueThrown(x, "ofFree(0, 0)", Checks.INDEX, () -> x.ofFree(0, 0));
        x.stretch(0, 2, -1);
        Checks.dueAsked(x, "frees() with a billionth behind", 1, x::frees);
        x.move(0, 2, 1);
        Checks.dueAsked(x, "frees() with a billionth ahead", 1, x::frees);
        x.stretch(0, 2, -1);
        Checks.dueAsked(x, "frees() with both", 2, x::frees);
    }

    private static void ofFreeEachPart() {
        Spanbooker x = new Spanbooker();
        x.set(0, -7, 1);
        x.set(1, 9, 2);
        x.open(0, 1);
        x.set(2, -3, 5);
        x.set(3, 4, 6);
        x.book(2, 3, true);
        int[] want = {-7, 1, -3, 5, 4, 6, 9, 2};
        for (int n = 0; n < 8; n++) {
            int k = n / 4;
            int what = n % 4;
            Checks.dueAsked(x, "ofFree(" + k + ", " + what + ")", want[n], () -> x.ofFree(k, what));
        }
        Checks.dueThrown(x, "ofFree(0, -1)", Checks.ARGUMENT, () -> x.ofFree(0, -1));
        Checks.dueThrown(x, "ofFree(1, 4)", Checks.ARGUMENT, () -> x.ofFree(1, 4));
        Checks.dueThrown(x, "ofFree(2, 0)", Checks.INDEX, () -> x.ofFree(2, 0));
    }

    private static void ofFreeAtTheEnds() {
        Spanbooker x = Made.wholeLine();
        int[] want = {-LAST, 0, LAST, 999999999};
        for (int k = 0; k < 4; k++) {
            int what = k;
            Checks.dueAsked(x, "ofFree(0, " + k + ")", want[k], () -> x.ofFree(0, what));
        }
        Spanbooker full = Made.calendar(0, 100);
        for (int k = 0; k < 10; k++) {
            Made.book(full, 9 * k + 5, 9 * k + 6);
        }
        Checks.dueAsked(full, "the begin of the first of 11", 0, () -> full.ofFree(0, 1));
        Checks.dueAsked(full, "the begin of the last of 11", 87, () -> full.ofFree(10, 1));
        Checks.dueAsked(full, "the end of the last of 11", 100, () -> full.ofFree(10, 3));
        Checks.dueThrown(full, "ofFree(11, 0)", Checks.INDEX, () -> full.ofFree(11, 0));
    }

    private static void freeAtItsEnds() {
        Spanbooker x = Made.calendarOf100(40, 20);
        dueFreeAt(x, 0, 0);
        dueFreeAt(x, 19, 0);
        dueFreeAt(x, 30, 1);
        dueFreeAt(x, 39, 1);
        dueFreeAt(x, 50, 2);
        dueFreeAt(x, 99, 2);
        Spanbooker full = Made.calendar(0, 100);
        for (int k = 0; k < 10; k++) {
            Made.book(full, 9 * k + 5, 9 * k + 6);
        }
        dueFreeAt(full, 86, Checks.NONE);
        dueFreeAt(full, 87, 10);
        dueFreeAt(full, 99, 10);
        Spanbooker whole = Made.wholeLine();
        Checks.dueAsked(whole, "freeAt the first MOMENT", 0, () -> whole.freeAt(0));
        Checks.dueAsked(whole, "freeAt the last MOMENT", Checks.NONE, () -> whole.freeAt(1));
        whole.go(1, 2, 1, true);
        Checks.dueAsked(whole, "freeAt the last MOMENT but one", 0, () -> whole.freeAt(1));
    }

    private static void freeAtNone() {
        Spanbooker x = Made.calendarOf100(40);
        Made.over(x, 45, 60);
        dueFreeAt(x, -1, Checks.NONE);
        dueFreeAt(x, 40, Checks.NONE);
        dueFreeAt(x, 49, Checks.NONE);
        dueFreeAt(x, 50, Checks.NONE);
        dueFreeAt(x, 59, Checks.NONE);
        dueFreeAt(x, 60, 1);
        dueFreeAt(x, 100, Checks.NONE);
        Spanbooker full = Made.fullOfSpans();
        dueFreeAt(full, 0, Checks.NONE);
        dueFreeAt(full, 10, Checks.NONE);
        dueFreeAt(full, 99, Checks.NONE);
    }

    private static void lengthEachPart() {
        Spanbooker x = new Spanbooker();
        x.set(0, -7, 1);
        x.set(1, 9, 4);
        x.open(0, 1);
        x.set(2, 0, 0);
        x.set(3, 3, 1);
        x.book(2, 3, false);
        int[] want = {3, 1, 13, 2, 16, 3};
        for (int k = 0; k < 6; k++) {
            int what = k;
            Checks.dueAsked(x, "length(" + k + ")", want[k], () -> x.length(what));
        }
        Checks.dueThrown(x, "length(-1)", Checks.ARGUMENT, () -> x.length(-1));
        Checks.dueThrown(x, "length(6)", Checks.ARGUMENT, () -> x.length(6));
    }

    private static void lengthsFromNoneToAll() {
        Spanbooker x = Made.calendar(0, 100);
        dueLengths(x, "0 100 100");
        Made.book(x, 0, 1);
        dueLengths(x, "1 99 100");
        Made.book(x, 1, 100);
        dueLengths(x, "100 0 100");
        dueLengths(Made.fullOfSpans(), "100 0 100");
        dueLengths(Made.calendar(-1, 0), "0 1 1");
        dueLengths(new Spanbooker(), "0 86400000000000 86400000000000");
        Spanbooker whole = Made.wholeLine();
        dueLengths(whole, "0 2000000000999999999 2000000000999999999");
        whole.book(0, 1, false);
        dueLengths(whole, "2000000000999999999 0 2000000000999999999");
        whole.stretch(0, 2, -1);
        dueLengths(whole, "2000000000999999998 1 2000000000999999999");
    }
}
