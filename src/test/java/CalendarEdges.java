/** The edges of the acts on the CALENDAR: promises 7 to 14. */
final class CalendarEdges {
    private static final int LAST = 1000000000;
    private static final int MOST = 2000000000;

    private CalendarEdges() {
    }

    static void tell() {
        tellShiftAndOpen();
        tellBook();
        tellMoveAndStretch();
        tellFit();
    }

    private static void tellShiftAndOpen() {
        Sentences.holds(7, "All MOMENTS that there are (of CELLS, FROM, UNTIL, of SPANS and WISHES) go on by so many UNITS"
                + " (below 0: back).", CalendarEdges::shiftAll);
        Sentences.holds(7, "Returns how many MOMENTS these are (two of each SPAN and WISH);",
                CalendarEdges::shiftAnswers);
        Sentences.holds(7, "REFUSED, if one of them would not be LET.", CalendarEdges::shiftRefusedByCells);
        Sentences.holds(7, "REFUSED, if one of them would not be LET.", CalendarEdges::shiftRefusedByFrom);
        Sentences.holds(7, "REFUSED, if one of them would not be LET.", CalendarEdges::shiftRefusedByUntil);
        Sentences.holds(7, "REFUSED, if one of them would not be LET.", CalendarEdges::shiftRefusedByWishes);
        Sentences.holds(7, "REFUSED, if one of them would not be LET.", CalendarEdges::shiftRefusedByMost);
        Sentences.holds(8, "The CALENDAR begins anew, from the MOMENT of a CELL to that of another one;",
                CalendarEdges::openFromTo);
        Sentences.holds(8, "all SPANS go.", CalendarEdges::openLetsSpansGo);
        Sentences.holds(8, "Returns how many SPANS there were;", CalendarEdges::openAnswers);
        Sentences.holds(8, "REFUSED, if the first one is not earlier.", CalendarEdges::openRefused);
    }

    private static void tellBook() {
        Sentences.holds(9, "A SPAN comes, from the MOMENT of a CELL to that of another one;", CalendarEdges::bookFromTo);
        Sentences.holds(9, "it may be booked OVER.", CalendarEdges::bookOver);
        Sentences.holds(9, "Returns its number;", CalendarEdges::bookAnswers);
        Sentences.holds(9, "REFUSED, if the first one is not earlier,", CalendarEdges::bookNotEarlier);
        Sentences.holds(9, "if it is not in the CALENDAR,", CalendarEdges::bookOutside);
        Sentences.holds(9, "if there are 10,", CalendarEdges::bookTheEleventh);
        Sentences.holds(9, "or if it MEETS another one and is not booked OVER.", CalendarEdges::bookMeeting);
        Sentences.holds(9, "or if it MEETS another one and is not booked OVER.", CalendarEdges::bookMeetingOneOver);
        Sentences.holds(10, "A SPAN goes;", CalendarEdges::unbookEach);
        Sentences.holds(10, "those behind it have numbers that are 1 less.", CalendarEdges::unbookNumbers);
        Sentences.holds(10, "Returns how many are left.", CalendarEdges::unbookAnswers);
        Sentences.holds(11, "All SPANS go.", CalendarEdges::emptyLeavesTheRest);
        Sentences.holds(11, "Returns how many they were.", CalendarEdges::emptyAnswers);
    }

    private static void tellMoveAndStretch() {
        Sentences.holds(12, "A SPAN, with its begin and its end, goes on by so many UNITS (below 0: back).",
                CalendarEdges::moveOnAndBack);
        Sentences.holds(12, "Returns how many SPANS begin earlier than it then;", CalendarEdges::moveAnswers);
        Sentences.holds(12, "REFUSED, if it would not be in the CALENDAR,", CalendarEdges::moveOutside);
        Sentences.holds(12, "or MEET another one", CalendarEdges::moveOntoAnother);
        Sentences.holds(12, "(also if one of both was booked OVER).", CalendarEdges::moveOver);
        Sentences.holds(13, "The end of a SPAN goes on by so many UNITS (below 0: back).",
                CalendarEdges::stretchOnAndBack);
        Sentences.holds(13, "Returns how many SPANS end earlier than it then;", CalendarEdges::stretchAnswers);
        Sentences.holds(13, "REFUSED, if its end would not be later than its begin,", CalendarEdges::stretchToNothing);
        Sentences.holds(13, "if it would not be in the CALENDAR,", CalendarEdges::stretchOutside);
        Sentences.holds(13, "or MEET another one", CalendarEdges::stretchOntoAnother);
        Sentences.holds(13, "(also if one of both was booked OVER).", CalendarEdges::stretchOver);
    }

    private static void tellFit() {
        Sentences.holds(14, "The earliest MOMENT that FITS a length of so many UNITS", CalendarEdges::fitTheEarliest);
        Sentences.holds(14, "from the MOMENT of a CELL on", CalendarEdges::fitFromACellOn);
        Sentences.holds(14, "comes to a CELL.", CalendarEdges::fitIntoEachCell);
        Sentences.holds(14, "Returns 1 if another MOMENT was there, otherwise 0;", CalendarEdges::fitAnswers);
        Sentences.holds(14, "REFUSED, if none FITS.", CalendarEdges::fitRefusedByABillionth);
        Sentences.holds(14, "REFUSED, if none FITS.", CalendarEdges::fitRefusedInAFullCalendar);
        Sentences.holds(14, "REFUSED, if none FITS.", CalendarEdges::fitRefusedBehind);
        Sentences.holds(14, "REFUSED, if none FITS.", CalendarEdges::fitTheLongest);
    }

    private static void dueSpans(Spanbooker x, String want) {
        Checks.same("spans", want, Made.spans(x));
    }

    private static void dueBook(Spanbooker x, int begin, int end, boolean isOver, int want) {
        Made.put(x, begin, end);
        String what = "book " + begin + ".." + end + (isOver ? "+" : "");
        if (want == Checks.REFUSED) {
            Checks.dueRefused(x, what, () -> x.book(2, 3, isOver));
        } else {
            Checks.dueAct(x, what, want, () -> x.book(2, 3, isOver));
        }
    }

    private static void dueMove(Spanbooker x, int k, int n, int want) {
        String what = "move(" + k + ", 2, " + n + ")";
        if (want == Checks.REFUSED) {
            Checks.dueRefused(x, what, () -> x.move(k, 2, n));
        } else {
            Checks.dueAct(x, what, want, () -> x.move(k, 2, n));
        }
    }

    private static void dueStretch(Spanbooker x, int k, int n, int want) {
        String what = "stretch(" + k + ", 2, " + n + ")";
        if (want == Checks.REFUSED) {
            Checks.dueRefused(x, what, () -> x.stretch(k, 2, n));
        } else {
            Checks.dueAct(x, what, want, () -> x.stretch(k, 2, n));
        }
    }

    /** From cell 2 on into cell 3, which has a MOMENT far from all. */
    private static void dueFit(Spanbooker x, int from, int n, int want) {
        Made.put(x, from, -77);
        String what = "fit of " + n + " from " + from + " on";
        if (want == Checks.REFUSED) {
            Checks.dueRefused(x, what, () -> x.fit(2, 2, n, 3));
        } else {
            Checks.dueAct(x, what, 1, () -> x.fit(2, 2, n, 3));
            Checks.due("where it fits", want, () -> x.nano(3));
        }
    }

    private static void shiftAll() {
        Spanbooker x = Made.calendarOf100(10, 30);
        Made.over(x, 35, 50);
        Made.wish(x, -5, 1);
        Made.wish(x, 200, 300);
        Made.put(x, 3, 4);
        Checks.dueAct(x, "shift on", 16, () -> x.shift(2, 7));
        Checks.same("cells", "7 107 10 11", Made.cells(x));
        Checks.same("calendar", "7..107", Made.calendar(x));
        dueSpans(x, "17..27 37..47 42..57+");
        Checks.same("wishes", "2..8 207..307", Made.wishes(x));
        Checks.dueAct(x, "shift back", 16, () -> x.shift(1, -1));
        Checks.same("cells", "-999993 -999893 -999990 -999989", Made.cells(x));
        Checks.same("calendar", "-999993..-999893", Made.calendar(x));
        dueSpans(x, "-999983..-999973 -999963..-999953 -999958..-999943+");
        Checks.same("wishes", "-999998..-999992 -999793..-999693", Made.wishes(x));
        Checks.dueIdle(x, "shift by none", 16, () -> x.shift(0, 0));
    }

    private static void shiftAnswers() {
        Spanbooker none = new Spanbooker();
        Checks.dueAct(none, "shift without SPANS and WISHES", 6, () -> none.shift(0, 1));
        Spanbooker one = Made.calendarOf100(10);
        Checks.dueAct(one, "shift with a SPAN", 8, () -> one.shift(0, 1));
        Spanbooker wish = Made.wishing(10, 20);
        Checks.dueAct(wish, "shift with a WISH", 8, () -> wish.shift(0, -1));
        Spanbooker full = Made.fullOfSpans();
        Checks.dueAct(full, "shift with 10 SPANS", 26, () -> full.shift(0, 1));
        for (int k = 0; k < 8; k++) {
            full.wish(0, 1);
        }
        Checks.dueAct(full, "shift with 10 SPANS and 8 WISHES", 42, () -> full.shift(0, -1));
    }

    private static void shiftRefusedByCells() {
        for (int k = 0; k < 4; k++) {
            int cell = k;
            Spanbooker late = new Spanbooker();
            late.set(cell, LAST, 999999999);
            Checks.dueRefused(late, "shift of the latest in cell " + k, () -> late.shift(2, 1));
            late.go(cell, 2, 1, true);
            Checks.dueAct(late, "shift of the last but one in cell " + k, 6, () -> late.shift(2, 1));
            Spanbooker early = new Spanbooker();
            early.set(cell, -LAST, 0);
            Checks.dueRefused(early, "shift of the earliest in cell " + k, () -> early.shift(2, -1));
            early.go(cell, 2, 1, false);
            Checks.dueAct(early, "shift of the second in cell " + k, 6, () -> early.shift(2, -1));
        }
    }

    /** From 0 to the MOMENT, or from that to 0; the CELLS are at 0 again. */
    private static Spanbooker calendarTo(int second, int nanos) {
        Spanbooker x = new Spanbooker();
        x.set(1, second, nanos);
        if (second < 0) {
            x.open(1, 0);
        } else {
            x.open(0, 1);
        }
        x.set(1, 0, 0);
        return x;
    }

    private static void shiftRefusedByFrom() {
        Spanbooker x = calendarTo(-LAST, 0);
        Checks.dueRefused(x, "shift of the earliest", () -> x.shift(2, -1));
        Checks.dueAct(x, "shift of it to 1", 6, () -> x.shift(2, 1));
        Checks.dueRefused(x, "shift of the second by 2", () -> x.shift(2, -2));
        Checks.dueAct(x, "shift of the second", 6, () -> x.shift(2, -1));
        Checks.same("calendar", "-1000000000000000000..0", Made.calendar(x));
    }

    private static void shiftRefusedByUntil() {
        Spanbooker x = calendarTo(LAST, 999999999);
        Checks.dueRefused(x, "shift of the latest", () -> x.shift(2, 1));
        Checks.dueAct(x, "shift of it by -1", 6, () -> x.shift(2, -1));
        Checks.dueRefused(x, "shift of the last but one by 2", () -> x.shift(2, 2));
        Checks.dueAct(x, "shift of the last but one", 6, () -> x.shift(2, 1));
        Checks.same("calendar", "0..1000000000999999999", Made.calendar(x));
    }

    /** Whether it is the first one or the eighth, its begin or its end. */
    private static void shiftRefusedByWishes() {
        for (int k = 0; k < 8; k++) {
            Spanbooker early = Made.cells(0, 1);
            Spanbooker late = Made.cells(0, 1);
            for (int n = 0; n < 8; n++) {
                early.set(0, n == k ? -LAST : 0, 0);
                early.wish(0, 1);
                late.set(1, n == k ? LAST : 0, 999999999);
                late.wish(0, 1);
            }
            early.set(0, 0, 0);
            late.set(1, 0, 0);
            Checks.dueRefused(early, "shift of wish " + k, () -> early.shift(2, -1));
            Checks.dueAct(early, "shift of wish " + k + " on", 22, () -> early.shift(2, 1));
            Checks.dueAct(early, "shift of wish " + k + " back", 22, () -> early.shift(2, -1));
            Checks.dueRefused(late, "shift of wish " + k, () -> late.shift(2, 1));
            Checks.dueAct(late, "shift of wish " + k + " back", 22, () -> late.shift(2, -1));
            Checks.dueAct(late, "shift of wish " + k + " on", 22, () -> late.shift(2, 1));
        }
    }

    private static void shiftRefusedByMost() {
        Spanbooker x = new Spanbooker();
        Checks.dueRefused(x, "shift far", () -> x.shift(0, MOST));
        Checks.dueRefused(x, "shift far back", () -> x.shift(0, -MOST));
        for (int cell = 0; cell < 4; cell++) {
            x.set(cell, -LAST, 0);
        }
        x.go(1, 2, 999999999, false);
        x.open(0, 1);
        x.book(0, 1, false);
        Checks.dueAct(x, "shift as far as can be", 8, () -> x.shift(0, MOST));
        dueSpans(x, "1000000000000000000..1000000000999999999");
        Checks.dueRefused(x, "shift of a filled calendar", () -> x.shift(2, 1));
        Checks.dueAct(x, "shift back as far as can be", 8, () -> x.shift(0, -MOST));
        dueSpans(x, "-1000000000000000000..-999999999000000001");
        Checks.dueRefused(x, "shift of a filled calendar", () -> x.shift(2, -1));
    }

    private static void openFromTo() {
        Spanbooker x = Made.cells(5, 9, -3, 0);
        Made.wish(x, -3, 0);
        Checks.dueAct(x, "open", 0, () -> x.open(2, 1));
        Checks.same("calendar", "-3..9", Made.calendar(x));
        x.go(2, 2, 1, false);
        x.go(1, 2, 1, false);
        Checks.same("calendar when its cells went on", "-3..9", Made.calendar(x));
        Checks.same("cells", "5 10 -2 0", Made.cells(x));
        Checks.same("wishes", "-3..0", Made.wishes(x));
    }

    private static void openLetsSpansGo() {
        Spanbooker x = Made.fullOfSpans();
        x.open(0, 1);
        Checks.due("spans()", 0, x::spans);
        Checks.due("ofSpan(0, 0)", Checks.INDEX, () -> x.ofSpan(0, 0));
        Checks.same("frees", "0..100", Made.frees(x));
        dueBook(x, 0, 10, false, 0);
        dueSpans(x, "0..10");
    }

    private static void openAnswers() {
        Spanbooker none = Made.calendar(0, 100);
        Checks.dueIdle(none, "open as it is", 0, () -> none.open(0, 1));
        Spanbooker one = Made.calendarOf100(10);
        Checks.dueAct(one, "open", 1, () -> one.open(0, 1));
        Spanbooker full = Made.fullOfSpans();
        Checks.dueAct(full, "open", 10, () -> full.open(0, 1));
        Checks.dueAct(full, "open again", 0, () -> full.open(0, 1));
    }

    private static void openRefused() {
        Spanbooker x = Made.calendarOf100(10);
        Made.put(x, 0, -1);
        Checks.dueRefused(x, "open of the same cell", () -> x.open(1, 1));
        Checks.dueRefused(x, "open of the same MOMENT", () -> x.open(0, 2));
        Checks.dueRefused(x, "open of one that is a billionth later", () -> x.open(0, 3));
        Checks.dueAct(x, "open of one that is a billionth earlier", 1, () -> x.open(3, 0));
        Checks.same("calendar", "-1..0", Made.calendar(x));
        Spanbooker whole = Made.wholeLine();
        Checks.same("calendar", "-1000000000000000000..1000000000999999999", Made.calendar(whole));
        Checks.dueRefused(whole, "open of the whole line backwards", () -> whole.open(1, 0));
    }

    private static void bookFromTo() {
        Spanbooker x = Made.calendar(0, 100);
        dueBook(x, 10, 11, false, 0);
        dueBook(x, 0, 10, false, 1);
        dueBook(x, 11, 100, false, 2);
        dueSpans(x, "10..11 0..10 11..100");
        x.go(2, 2, 1, false);
        x.go(3, 2, 1, false);
        dueSpans(x, "10..11 0..10 11..100");
    }

    private static void bookOver() {
        Spanbooker x = Made.calendar(0, 100);
        dueBook(x, 10, 20, true, 0);
        dueBook(x, 30, 40, false, 1);
        dueBook(x, 10, 20, true, 2);
        dueBook(x, 0, 100, true, 3);
        dueSpans(x, "10..20+ 30..40 10..20+ 0..100+");
    }

    private static void bookAnswers() {
        Spanbooker x = Made.calendar(0, 100);
        for (int k = 0; k < 10; k++) {
            dueBook(x, 90 - 10 * k, 100 - 10 * k, false, k);
        }
        dueSpans(x, "90..100 80..90 70..80 60..70 50..60 40..50 30..40 20..30 10..20 0..10");
    }

    private static void bookNotEarlier() {
        Spanbooker x = Made.calendarOf100(50);
        dueBook(x, 20, 20, false, Checks.REFUSED);
        dueBook(x, 20, 20, true, Checks.REFUSED);
        dueBook(x, 21, 20, false, Checks.REFUSED);
        dueBook(x, 21, 20, true, Checks.REFUSED);
        dueBook(x, 100, 0, true, Checks.REFUSED);
        dueBook(x, 0, 0, true, Checks.REFUSED);
        dueBook(x, 100, 100, true, Checks.REFUSED);
        Checks.dueRefused(x, "book of one cell", () -> x.book(0, 0, true));
        dueBook(x, 20, 21, false, 1);
    }

    private static void bookOutside() {
        Spanbooker x = Made.calendar(10, 20);
        boolean[] both = {false, true};
        for (boolean isOver : both) {
            dueBook(x, 9, 12, isOver, Checks.REFUSED);
            dueBook(x, 18, 21, isOver, Checks.REFUSED);
            dueBook(x, 9, 21, isOver, Checks.REFUSED);
            dueBook(x, 9, 10, isOver, Checks.REFUSED);
            dueBook(x, 20, 21, isOver, Checks.REFUSED);
            dueBook(x, 0, 5, isOver, Checks.REFUSED);
            dueBook(x, 30, 40, isOver, Checks.REFUSED);
        }
        dueBook(x, 10, 12, false, 0);
        dueBook(x, 18, 20, false, 1);
        dueBook(x, 10, 20, true, 2);
        dueSpans(x, "10..12 18..20 10..20+");
    }

    private static void bookTheEleventh() {
        Spanbooker x = Made.calendarOf100(0, 10, 20, 30, 40, 50, 60, 70, 80);
        dueBook(x, 90, 91, false, 9);
        dueBook(x, 92, 93, false, Checks.REFUSED);
        dueBook(x, 92, 93, true, Checks.REFUSED);
        dueBook(x, 0, 100, true, Checks.REFUSED);
        x.unbook(4);
        dueBook(x, 92, 93, true, 9);
        dueBook(x, 40, 50, false, Checks.REFUSED);
        dueSpans(x, "0..10 10..20 20..30 30..40 50..60 60..70 70..80 80..90 90..91 92..93+");
    }

    private static void bookMeeting() {
        Spanbooker x = Made.calendarOf100(70, 20);
        dueBook(x, 19, 21, false, Checks.REFUSED);
        dueBook(x, 10, 21, false, Checks.REFUSED);
        dueBook(x, 29, 31, false, Checks.REFUSED);
        dueBook(x, 20, 30, false, Checks.REFUSED);
        dueBook(x, 24, 25, false, Checks.REFUSED);
        dueBook(x, 19, 31, false, Checks.REFUSED);
        dueBook(x, 30, 71, false, Checks.REFUSED);
        dueBook(x, 10, 20, false, 2);
        dueBook(x, 30, 70, false, 3);
        dueBook(x, 19, 21, true, 4);
        dueSpans(x, "70..80 20..30 10..20 30..70 19..21+");
    }

    private static void bookMeetingOneOver() {
        Spanbooker x = Made.calendar(0, 100);
        dueBook(x, 20, 30, true, 0);
        dueBook(x, 29, 31, false, Checks.REFUSED);
        dueBook(x, 19, 21, false, Checks.REFUSED);
        dueBook(x, 20, 30, false, Checks.REFUSED);
        dueBook(x, 30, 31, false, 1);
        dueBook(x, 19, 20, false, 2);
        dueBook(x, 20, 30, true, 3);
    }

    private static final String[] TENTHS = {
        "0..10", "10..20", "20..30", "30..40", "40..50", "50..60", "60..70", "70..80", "80..90", "90..100",
    };

    private static void unbookEach() {
        for (int k = 0; k < 10; k++) {
            int gone = k;
            Spanbooker x = Made.fullOfSpans();
            Checks.dueAct(x, "unbook(" + k + ")", 9, () -> x.unbook(gone));
            Checks.same("frees", TENTHS[k], Made.frees(x));
            Checks.due("ofSpan(9, 0)", Checks.INDEX, () -> x.ofSpan(9, 0));
        }
    }

    private static void unbookNumbers() {
        Spanbooker x = Made.calendarOf100(0, 10);
        Made.over(x, 20, 40);
        Made.book(x, 40, 50);
        Made.over(x, 45, 60);
        Checks.dueAct(x, "unbook(1)", 4, () -> x.unbook(1));
        dueSpans(x, "0..10 20..40+ 40..50 45..60+");
        Checks.dueAct(x, "unbook the last one", 3, () -> x.unbook(3));
        dueSpans(x, "0..10 20..40+ 40..50");
        Checks.dueAct(x, "unbook the first one", 2, () -> x.unbook(0));
        dueSpans(x, "20..40+ 40..50");
        dueBook(x, 0, 10, false, 2);
        dueSpans(x, "20..40+ 40..50 0..10");
    }

    private static void unbookAnswers() {
        Spanbooker x = Made.fullOfSpans();
        for (int left = 9; left >= 0; left--) {
            int want = left;
            Checks.dueAct(x, "unbook(0)", want, () -> x.unbook(0));
        }
        Checks.dueThrown(x, "unbook(0) of none", Checks.INDEX, () -> x.unbook(0));
    }

    private static void emptyLeavesTheRest() {
        Spanbooker x = Made.fullOfSpans();
        Made.wish(x, 0, 10);
        x.empty();
        Checks.same("cells", "0 100 0 10", Made.cells(x));
        Checks.same("calendar", "0..100", Made.calendar(x));
        Checks.same("wishes", "0..10", Made.wishes(x));
        Checks.same("frees", "0..100", Made.frees(x));
        dueBook(x, 0, 100, false, 0);
        dueSpans(x, "0..100");
    }

    private static void emptyAnswers() {
        Spanbooker none = new Spanbooker();
        Checks.dueIdle(none, "empty of none", 0, none::empty);
        Spanbooker one = Made.calendarOf100(10);
        Checks.dueAct(one, "empty of one", 1, one::empty);
        Spanbooker full = Made.fullOfSpans();
        Checks.dueAct(full, "empty of 10", 10, full::empty);
        Checks.dueIdle(full, "empty again", 0, full::empty);
    }

    private static void moveOnAndBack() {
        Spanbooker x = Made.calendarOf100(10, 30);
        dueMove(x, 0, 5, 0);
        dueSpans(x, "15..25 30..40");
        dueMove(x, 0, -6, 0);
        dueSpans(x, "9..19 30..40");
        Checks.dueIdle(x, "move by none", 0, () -> x.move(0, 0, 0));
        Spanbooker y = Made.wholeLine();
        Made.book(y, 0, 10);
        Checks.dueAct(y, "move by SECONDS", 0, () -> y.move(0, 0, -1000000000));
        Checks.dueAct(y, "move by thousandths", 0, () -> y.move(0, 1, MOST));
        dueSpans(y, "-998000000000000000..-997999999999999990");
    }

    private static void moveAnswers() {
        Spanbooker x = Made.calendarOf100(0, 40, 60);
        dueMove(x, 0, 10, 0);
        dueMove(x, 0, 40, 1);
        dueMove(x, 0, 20, 2);
        dueMove(x, 1, 50, 2);
        dueMove(x, 2, -1, 0);
        dueSpans(x, "70..80 90..100 59..69");
        Spanbooker y = Made.calendar(0, 100);
        dueBook(y, 0, 10, true, 0);
        dueBook(y, 0, 20, true, 1);
        dueBook(y, 60, 70, false, 2);
        dueMove(y, 2, 1, 2);
    }

    private static void moveOutside() {
        Spanbooker x = Made.calendar(10, 100);
        dueBook(x, 20, 30, false, 0);
        dueMove(x, 0, -11, Checks.REFUSED);
        dueMove(x, 0, -10, 0);
        dueMove(x, 0, -1, Checks.REFUSED);
        dueMove(x, 0, 81, Checks.REFUSED);
        dueMove(x, 0, 80, 0);
        dueMove(x, 0, 1, Checks.REFUSED);
        dueMove(x, 0, MOST, Checks.REFUSED);
        dueMove(x, 0, -MOST, Checks.REFUSED);
        Checks.dueRefused(x, "move far", () -> x.move(0, 0, MOST));
        Checks.dueRefused(x, "move far back", () -> x.move(0, 0, -MOST));
        dueSpans(x, "90..100");
        Spanbooker whole = Made.wholeLine();
        whole.book(0, 1, false);
        Checks.dueRefused(whole, "move of the whole line", () -> whole.move(0, 2, 1));
        Checks.dueRefused(whole, "move of the whole line far", () -> whole.move(0, 0, MOST));
        Checks.dueRefused(whole, "move of the whole line far back", () -> whole.move(0, 0, -MOST));
    }

    private static void moveOntoAnother() {
        Spanbooker x = Made.calendarOf100(0, 40, 80);
        dueMove(x, 0, 31, Checks.REFUSED);
        dueMove(x, 0, 40, Checks.REFUSED);
        dueMove(x, 0, 49, Checks.REFUSED);
        dueMove(x, 0, 30, 0);
        dueMove(x, 0, 1, Checks.REFUSED);
        dueMove(x, 0, 20, 1);
        dueMove(x, 0, -1, Checks.REFUSED);
        dueMove(x, 2, -20, 2);
        dueMove(x, 2, -1, Checks.REFUSED);
        dueSpans(x, "50..60 40..50 60..70");
        dueMove(x, 2, 3, 2);
        dueMove(x, 2, -3, 2);
    }

    /** Each of both, and each of them booked OVER; also by none, where it MEETS another one now. */
    private static void moveOver() {
        for (int k = 1; k < 4; k++) {
            boolean isFirstOver = k % 2 == 1;
            Spanbooker x = Made.calendar(0, 100);
            dueBook(x, 0, 10, isFirstOver, 0);
            dueBook(x, 20, 30, k > 1, 1);
            dueMove(x, 0, 11, Checks.REFUSED);
            dueMove(x, 1, -11, Checks.REFUSED);
            dueMove(x, 0, 10, 0);
            dueMove(x, 1, 1, 1);
            dueSpans(x, "10..20" + (isFirstOver ? "+" : "") + " 21..31" + (k > 1 ? "+" : ""));
        }
        Spanbooker y = Made.calendarOf100(0);
        dueBook(y, 5, 15, true, 1);
        dueMove(y, 0, 0, Checks.REFUSED);
        dueMove(y, 1, 0, Checks.REFUSED);
        dueMove(y, 1, 4, Checks.REFUSED);
        dueMove(y, 1, 5, 1);
        dueMove(y, 1, 0, 1);
        dueSpans(y, "0..10 10..20+");
    }

    private static void stretchOnAndBack() {
        Spanbooker x = Made.calendarOf100(10, 30);
        dueStretch(x, 0, 5, 0);
        dueSpans(x, "10..25 30..40");
        dueStretch(x, 0, -6, 0);
        dueSpans(x, "10..19 30..40");
        Checks.dueIdle(x, "stretch by none", 0, () -> x.stretch(0, 0, 0));
        Spanbooker y = Made.wholeLine();
        Made.book(y, 0, 10);
        Checks.dueAct(y, "stretch by SECONDS", 0, () -> y.stretch(0, 0, 1000000000));
        Checks.dueAct(y, "stretch by thousandths", 0, () -> y.stretch(0, 1, -MOST));
        dueSpans(y, "0..998000000000000010");
    }

    private static void stretchAnswers() {
        Spanbooker x = Made.calendarOf100(60, 20, 0);
        dueStretch(x, 2, 10, 0);
        dueStretch(x, 1, 30, 1);
        dueStretch(x, 0, 30, 2);
        dueStretch(x, 0, -39, 2);
        dueSpans(x, "60..61 20..60 0..20");
        dueBook(x, 0, 100, true, 3);
        dueBook(x, 99, 100, true, 4);
        x.unbook(3);
        dueStretch(x, 3, 0, 3);
        Spanbooker y = Made.calendar(0, 100);
        dueBook(y, 0, 50, true, 0);
        dueBook(y, 10, 50, true, 1);
        dueBook(y, 60, 70, false, 2);
        dueStretch(y, 2, 1, 2);
    }

    private static void stretchToNothing() {
        Spanbooker x = Made.calendarOf100(10, 50);
        dueStretch(x, 0, -10, Checks.REFUSED);
        dueStretch(x, 0, -11, Checks.REFUSED);
        dueStretch(x, 0, -MOST, Checks.REFUSED);
        dueStretch(x, 1, -41, Checks.REFUSED);
        dueStretch(x, 0, -9, 0);
        dueStretch(x, 0, -1, Checks.REFUSED);
        dueStretch(x, 0, 0, 0);
        dueSpans(x, "10..11 50..60");
        Checks.dueRefused(x, "stretch far back", () -> x.stretch(0, 0, -MOST));
    }

    private static void stretchOutside() {
        Spanbooker x = Made.calendarOf100(80);
        dueStretch(x, 0, 11, Checks.REFUSED);
        dueStretch(x, 0, 10, 0);
        dueStretch(x, 0, 1, Checks.REFUSED);
        dueStretch(x, 0, MOST, Checks.REFUSED);
        Checks.dueRefused(x, "stretch far", () -> x.stretch(0, 0, MOST));
        dueSpans(x, "80..100");
        Spanbooker whole = Made.wholeLine();
        whole.book(0, 1, false);
        Checks.dueRefused(whole, "stretch of the whole line", () -> whole.stretch(0, 2, 1));
        Checks.dueRefused(whole, "stretch of the whole line far", () -> whole.stretch(0, 0, MOST));
        Checks.dueAct(whole, "stretch of the whole line far back", 0, () -> whole.stretch(0, 0, -MOST));
        dueSpans(whole, "-1000000000000000000..-999999999000000001");
    }

    private static void stretchOntoAnother() {
        Spanbooker x = Made.calendarOf100(0, 40);
        dueStretch(x, 0, 31, Checks.REFUSED);
        dueStretch(x, 0, 40, Checks.REFUSED);
        dueStretch(x, 0, 60, Checks.REFUSED);
        dueStretch(x, 0, 30, 0);
        dueStretch(x, 0, 1, Checks.REFUSED);
        dueStretch(x, 1, 1, 1);
        dueStretch(x, 0, -1, 0);
        dueSpans(x, "0..39 40..51");
    }

    /** Each of both, and each of them booked OVER; also by none, where it MEETS another one now. */
    private static void stretchOver() {
        for (int k = 1; k < 4; k++) {
            boolean isFirstOver = k % 2 == 1;
            Spanbooker x = Made.calendar(0, 100);
            dueBook(x, 0, 10, isFirstOver, 0);
            dueBook(x, 20, 30, k > 1, 1);
            dueStretch(x, 0, 11, Checks.REFUSED);
            dueStretch(x, 0, 10, 0);
            dueSpans(x, "0..20" + (isFirstOver ? "+" : "") + " 20..30" + (k > 1 ? "+" : ""));
        }
        Spanbooker y = Made.calendarOf100(10);
        dueBook(y, 5, 15, true, 1);
        dueStretch(y, 0, 0, Checks.REFUSED);
        dueStretch(y, 1, 0, Checks.REFUSED);
        dueStretch(y, 0, 1, Checks.REFUSED);
        dueStretch(y, 0, -1, Checks.REFUSED);
        dueStretch(y, 1, -4, Checks.REFUSED);
        dueStretch(y, 1, -5, 0);
        dueStretch(y, 1, 0, 0);
        dueSpans(y, "10..20 5..10+");
    }

    private static void fitTheEarliest() {
        Spanbooker x = Made.calendarOf100(50, 10);
        Made.over(x, 15, 30);
        dueFit(x, 0, 10, 0);
        dueFit(x, 0, 11, 30);
        dueFit(x, 0, 20, 30);
        dueFit(x, 0, 21, 60);
        dueFit(x, 0, 40, 60);
        Made.put(x, 0, 0);
        Checks.dueRefused(x, "fit of thousandths", () -> x.fit(2, 1, 1, 3));
        Checks.dueRefused(x, "fit of a SECOND", () -> x.fit(2, 0, 1, 3));
        Spanbooker touching = Made.calendarOf100(0, 20, 10, 90, 30);
        dueFit(touching, 0, 1, 40);
        dueFit(touching, 0, 50, 40);
        dueFit(touching, 0, 51, Checks.REFUSED);
        Spanbooker inside = Made.calendar(0, 100);
        dueBook(inside, 10, 60, true, 0);
        dueBook(inside, 20, 30, true, 1);
        dueFit(inside, 10, 1, 60);
        dueFit(inside, 25, 1, 60);
        Spanbooker day = new Spanbooker();
        Checks.dueIdle(day, "fit of SECONDS", 0, () -> day.fit(0, 0, 86400, 3));
        Checks.dueRefused(day, "fit of more SECONDS", () -> day.fit(0, 0, 86401, 3));
        Checks.dueIdle(day, "fit of thousandths", 0, () -> day.fit(0, 1, 86400000, 3));
        Checks.dueRefused(day, "fit of more thousandths", () -> day.fit(0, 1, 86400001, 3));
    }

    private static void fitFromACellOn() {
        Spanbooker x = Made.calendarOf100(10, 50);
        dueFit(x, -1, 5, 0);
        dueFit(x, -2000000, 5, 0);
        dueFit(x, 5, 5, 5);
        dueFit(x, 6, 5, 20);
        dueFit(x, 6, 4, 6);
        dueFit(x, 10, 1, 20);
        dueFit(x, 19, 1, 20);
        dueFit(x, 20, 30, 20);
        dueFit(x, 21, 30, 60);
        dueFit(x, 99, 1, 99);
        dueFit(x, 99, 2, Checks.REFUSED);
    }

    private static void fitIntoEachCell() {
        for (int k = 0; k < 16; k++) {
            int cell = k / 4;
            int into = k % 4;
            Spanbooker x = Made.calendarOf100(10);
            for (int n = 0; n < 4; n++) {
                x.set(n, 0, 11 + n);
            }
            x.fit(cell, 2, 1, into);
            String[] want = {"11", "12", "13", "14"};
            want[into] = "20";
            Checks.same("cells after fit(" + cell + ", 2, 1, " + into + ")", String.join(" ", want), Made.cells(x));
            dueSpans(x, "10..20");
        }
    }

    private static void fitAnswers() {
        Spanbooker x = Made.calendarOf100(10);
        Made.put(x, 15, 20);
        Checks.dueIdle(x, "fit where the MOMENT is", 0, () -> x.fit(2, 2, 5, 3));
        x.set(3, 0, 21);
        Checks.dueAct(x, "fit where one a billionth later is", 1, () -> x.fit(2, 2, 5, 3));
        x.set(3, 0, 19);
        Checks.dueAct(x, "fit where one a billionth earlier is", 1, () -> x.fit(2, 2, 5, 3));
        Checks.dueAct(x, "fit into its own cell", 1, () -> x.fit(2, 2, 5, 2));
        Checks.dueIdle(x, "fit into its own cell again", 0, () -> x.fit(2, 2, 5, 2));
    }

    private static void fitRefusedByABillionth() {
        Spanbooker x = Made.calendarOf100(0, 20, 40, 60, 80);
        dueFit(x, 0, 10, 10);
        dueFit(x, 0, 11, Checks.REFUSED);
        dueFit(x, 90, 10, 90);
        dueFit(x, 91, 10, Checks.REFUSED);
        Spanbooker none = Made.calendar(0, 100);
        dueFit(none, 0, 100, 0);
        dueFit(none, 0, 101, Checks.REFUSED);
        dueFit(none, 1, 99, 1);
        dueFit(none, 1, 100, Checks.REFUSED);
    }

    private static void fitRefusedInAFullCalendar() {
        Spanbooker x = Made.fullOfSpans();
        dueFit(x, 0, 1, Checks.REFUSED);
        dueFit(x, 99, 1, Checks.REFUSED);
        dueFit(x, -5, 1, Checks.REFUSED);
        x.unbook(9);
        dueFit(x, 0, 10, 90);
        dueBook(x, 91, 100, false, 9);
        dueFit(x, 0, 1, 90);
        dueFit(x, 0, 2, Checks.REFUSED);
        Spanbooker one = Made.calendar(0, 1);
        dueFit(one, 0, 1, 0);
        dueFit(one, 0, 2, Checks.REFUSED);
        dueBook(one, 0, 1, false, 0);
        dueFit(one, 0, 1, Checks.REFUSED);
    }

    private static void fitRefusedBehind() {
        Spanbooker x = Made.calendarOf100(10);
        dueFit(x, 100, 1, Checks.REFUSED);
        dueFit(x, 101, 1, Checks.REFUSED);
        x.set(2, LAST, 999999999);
        Checks.dueRefused(x, "fit from the last MOMENT on", () -> x.fit(2, 2, 1, 3));
        Checks.dueRefused(x, "fit of most from the last MOMENT on", () -> x.fit(2, 0, MOST, 3));
        x.set(2, -LAST, 0);
        Checks.dueRefused(x, "fit of most from the first MOMENT on", () -> x.fit(2, 0, MOST, 3));
        Checks.dueAct(x, "fit from the first MOMENT on", 1, () -> x.fit(2, 2, 80, 2));
        Checks.due("where it fits", 20, () -> x.nano(2));
    }

    private static void fitTheLongest() {
        Spanbooker x = Made.wholeLine();
        Checks.dueAct(x, "fit of most", 1, () -> x.fit(0, 0, MOST, 2));
        Checks.due("where it fits", "-1000000000 0", () -> x.text(2));
        x.go(2, 2, 999999999, false);
        Checks.dueAct(x, "fit of most at the last", 1, () -> x.fit(2, 0, MOST, 3));
        Checks.due("where it fits", "-1000000000 999999999", () -> x.text(3));
        x.go(2, 2, 1, false);
        Checks.dueRefused(x, "fit of most a billionth later", () -> x.fit(2, 0, MOST, 3));
        Checks.dueAct(x, "fit of most thousandths", 1, () -> x.fit(2, 1, MOST, 3));
        Checks.dueAct(x, "fit of most billionths", 0, () -> x.fit(2, 2, MOST, 3));
        Checks.due("where it fits", "-999999999 0", () -> x.text(3));
    }
}
