/** The edges of MOMENTS and CELLS: the description's first part, promises 1 to 6 and 18 to 25. */
final class MomentEdges {
    private static final int D = Sentences.DESCRIPTION;
    private static final int LAST = 1000000000;
    private static final int MOST = 2000000000;
    private static final int BILLION = 1000000000;

    private MomentEdges() {
    }

    static void tell() {
        Sentences.holds(D, "A MOMENT has a SECOND, a whole number, and a NANO, 0 to 999999999;",
                MomentEdges::nanoRunsFrom0To999999999);
        Sentences.holds(D, "its COUNT is SECOND * 1000000000 + NANO, in billionths of a SECOND",
                MomentEdges::countIsBoth);
        Sentences.holds(D, "(below 0, too: COUNT -1 is the SECOND -1 with the NANO 999999999).",
                MomentEdges::countBelow0);
        Sentences.holds(D, "It is LET, if its SECOND is -1000000000 to 1000000000.", MomentEdges::letToTheLastBillionth);
        Sentences.holds(D, "One MOMENT is earlier than another one (and that one later), if its COUNT is less;",
                MomentEdges::earlierByCount);
        Sentences.holds(D, "they are the same, if it is the same.", MomentEdges::sameByCount);
        Sentences.holds(D, "UNITS: 0 a SECOND (1000000000 billionths), 1 a thousandth (1000000), 2 a billionth (1).",
                MomentEdges::units);
        Sentences.holds(D, "To go on by n UNITS: COUNT becomes greater by n times that many billionths.",
                MomentEdges::mostUnits);
        Sentences.holds(D, "LENGTH from one MOMENT to another one: the COUNT of the other one less that of the first one,"
                + " told as SECONDS (that difference divided by 1000000000, rounded down, also below 0) and NANOS (what is"
                + " left, 0 to 999999999).", MomentEdges::lengthIsRoundedDown);
        Sentences.holds(D, "There are four CELLS, 0 to 3; each has a MOMENT that is LET, at first SECOND 0 and NANO 0.",
                MomentEdges::fourCells);
        tellActs();
        tellQuestions();
    }

    private static void tellActs() {
        Sentences.holds(1, "Creates four CELLS with the SECOND 0,", MomentEdges::fourCells);
        Sentences.holds(1, "a CALENDAR of a day", MomentEdges::newCalendar);
        Sentences.holds(1, "without SPANS,", MomentEdges::newHasNoSpans);
        Sentences.holds(1, "and no WISHES.", MomentEdges::newHasNoWishes);
        Sentences.holds(2, "A CELL becomes the MOMENT that is so many billionths behind the beginning of a SECOND",
                MomentEdges::setBehind);
        Sentences.holds(2, "(below 0: ahead of it).", MomentEdges::setAhead);
        Sentences.holds(2, "Returns how many its SECOND is greater than that one (-2 to 2);", MomentEdges::setAnswers);
        Sentences.holds(2, "REFUSED, if that MOMENT is not LET.", MomentEdges::setRefused);
        Sentences.holds(3, "The MOMENT of a CELL goes on by so many UNITS (below 0: back),", MomentEdges::goOnAndBack);
        Sentences.holds(3, "or, if it is back, the other way.", MomentEdges::goTheOtherWay);
        Sentences.holds(3, "Returns 1 if it is later then, -1 if it is earlier, 0 if it is the same;",
                MomentEdges::goAnswers);
        Sentences.holds(3, "REFUSED, if it would not be LET.", MomentEdges::goRefused);
        Sentences.holds(4, "The MOMENT of a CELL comes to another one, too.", MomentEdges::copyLeavesTheFirst);
        Sentences.holds(4, "- into: the other one, or the same", MomentEdges::copyIntoItself);
        Sentences.holds(4, "Returns 1 if another MOMENT was there, otherwise 0.", MomentEdges::copyAnswers);
        Sentences.holds(5, "Two CELLS change their MOMENTS.", MomentEdges::swapAll);
        Sentences.holds(5, "- other: a CELL, or the same", MomentEdges::swapWithItself);
        Sentences.holds(5, "Returns 1 if the two MOMENTS are unlike, otherwise 0.", MomentEdges::swapAnswers);
        Sentences.holds(6, "The earliest MOMENT of all CELLS, or the latest one, comes to a CELL, too.",
                MomentEdges::pickFromEach);
        Sentences.holds(6, "Returns the CELL in which it was (of several the first one).", MomentEdges::pickTheFirst);
    }

    private static void tellQuestions() {
        Sentences.holds(18, "Returns the SECOND of its MOMENT.", MomentEdges::secondAtTheEnds);
        Sentences.holds(19, "Returns the NANO of its MOMENT.", MomentEdges::nanoAtTheEnds);
        Sentences.holds(20, "Returns its SECOND, \" \" and its NANO, as numbers.", MomentEdges::textAtTheEnds);
        Sentences.holds(21, "- other: a CELL, or the same", MomentEdges::orderOfOne);
        Sentences.holds(21, "Returns -1 if the MOMENT of the first one is earlier, 1 if it is later, 0 if it is the same.",
                MomentEdges::orderByABillionth);
        Sentences.holds(22, "- other: a CELL, or the same", MomentEdges::isBeforeOfOne);
        Sentences.holds(22, "Returns whether the MOMENT of the first one is earlier.", MomentEdges::isBeforeByABillionth);
        Sentences.holds(23, "- other: a CELL, or the same", MomentEdges::isAfterOfOne);
        Sentences.holds(23, "Returns whether the MOMENT of the first one is later.", MomentEdges::isAfterByABillionth);
        Sentences.holds(24, "- other: a CELL, or the same", MomentEdges::sameOfOne);
        Sentences.holds(24, "- how: 0 as they are, 1 by SECONDS and NANOS (both are the same), 2 whether their codes are the"
                + " same, if they are (true, always)", MomentEdges::sameEachWay);
        Sentences.holds(24, "Returns of 0 and 1 whether both MOMENTS are the same; of 2 true.",
                MomentEdges::sameByABillionth);
        Sentences.holds(25, "- other: a CELL, or the same", MomentEdges::apartOfOne);
        Sentences.holds(25, "- what: 0 SECONDS, 1 NANOS", MomentEdges::apartBothParts);
        Sentences.holds(25, "Returns of the LENGTH from the MOMENT of the first one to that of the other one.",
                MomentEdges::apartFarthest);
    }

    private static void dueText(Spanbooker x, int cell, String want) {
        Checks.due("text(" + cell + ")", want, () -> x.text(cell));
    }

    private static void dueSet(Spanbooker x, int second, int nanos, int want, String text) {
        Checks.dueAct(x, "set(1, " + second + ", " + nanos + ")", want, () -> x.set(1, second, nanos));
        dueText(x, 1, text);
    }

    private static void dueGo(Spanbooker x, int unit, int n, boolean isBack, int want, String text) {
        Checks.dueAct(x, "go(1, " + unit + ", " + n + ", " + isBack + ")", want, () -> x.go(1, unit, n, isBack));
        dueText(x, 1, text);
    }

    private static Spanbooker atSecond(int second, int nanos) {
        Spanbooker x = new Spanbooker();
        x.set(1, second, nanos);
        return x;
    }

    /** The cells: the first MOMENT that is LET, the last one, COUNT -1 and COUNT 0. */
    private static Spanbooker ends() {
        Spanbooker x = new Spanbooker();
        x.set(0, -LAST, 0);
        x.set(1, LAST, 999999999);
        x.set(2, 0, -1);
        return x;
    }

    private static void nanoRunsFrom0To999999999() {
        Spanbooker x = new Spanbooker();
        dueSet(x, 7, 999999999, 0, "7 999999999");
        dueGo(x, 2, 1, false, 1, "8 0");
        dueGo(x, 2, 1, true, -1, "7 999999999");
        dueSet(x, -7, 0, 0, "-7 0");
        dueGo(x, 2, 1, true, -1, "-8 999999999");
        dueGo(x, 2, 1, false, 1, "-7 0");
    }

    private static void countIsBoth() {
        Spanbooker x = new Spanbooker();
        x.set(0, 2, 1);
        dueSet(x, 0, MOST, 2, "2 0");
        Checks.due("apart in billionths", 1, () -> x.apart(1, 0, 1));
        dueGo(x, 2, 1, false, 1, "2 1");
        Checks.due("order", 0, () -> x.order(0, 1));
    }

    private static void countBelow0() {
        Spanbooker x = new Spanbooker();
        dueSet(x, 0, -1, -1, "-1 999999999");
        dueSet(x, 0, -999999999, -1, "-1 1");
        dueSet(x, 0, -BILLION, -1, "-1 0");
        dueSet(x, 0, -BILLION - 1, -2, "-2 999999999");
        dueSet(x, 0, -MOST, -2, "-2 0");
    }

    private static void letToTheLastBillionth() {
        Spanbooker x = ends();
        dueText(x, 0, "-1000000000 0");
        dueText(x, 1, "1000000000 999999999");
        Checks.dueRefused(x, "go behind the last one", () -> x.go(1, 2, 1, false));
        Checks.dueRefused(x, "go ahead of the first one", () -> x.go(0, 2, 1, true));
        Checks.dueRefused(x, "set behind the last one", () -> x.set(2, LAST, BILLION));
        Checks.dueRefused(x, "set ahead of the first one", () -> x.set(2, -LAST, -1));
        Checks.dueRefused(x, "shift behind the last one", () -> x.shift(2, 1));
        Checks.dueRefused(x, "shift ahead of the first one", () -> x.shift(2, -1));
    }

    /** Of each two the first one is earlier; neither the SECOND nor the NANO alone tells it. */
    private static final int[][] EARLIER = {
        {0, 999999999, 1, 0}, {-1, 999999999, 0, 0}, {-1, 0, 0, 0}, {5, 1, 5, 2}, {-5, 1, -5, 2}, {4, 7, 5, 3},
        {-5, 7, -4, 3}, {-2, 3, 1, 3}, {-LAST, 0, LAST, 999999999}, {-LAST, 0, -LAST, 1}, {LAST, 999999998, LAST, 999999999},
    };

    private static void earlierByCount() {
        for (int[] two : EARLIER) {
            Spanbooker x = new Spanbooker();
            x.set(1, two[0], two[1]);
            x.set(3, two[2], two[3]);
            Checks.due("order(1, 3)", -1, () -> x.order(1, 3));
            Checks.due("order(3, 1)", 1, () -> x.order(3, 1));
            Checks.due("isBefore(1, 3)", true, () -> x.isBefore(1, 3));
            Checks.due("isBefore(3, 1)", false, () -> x.isBefore(3, 1));
            Checks.due("isAfter(1, 3)", false, () -> x.isAfter(1, 3));
            Checks.due("isAfter(3, 1)", true, () -> x.isAfter(3, 1));
        }
    }

    private static void sameByCount() {
        Spanbooker x = new Spanbooker();
        x.set(0, 1, 0);
        x.set(1, 0, BILLION);
        x.set(2, 3, -MOST);
        x.go(3, 1, 1000, false);
        for (int cell = 1; cell < 4; cell++) {
            int other = cell;
            Checks.due("order(0, " + cell + ")", 0, () -> x.order(0, other));
            Checks.due("same(0, " + cell + ", 0)", true, () -> x.same(0, other, 0));
            Checks.due("same(0, " + cell + ", 1)", true, () -> x.same(0, other, 1));
        }
    }

    private static void units() {
        Spanbooker x = new Spanbooker();
        dueGo(x, 0, 1, false, 1, "1 0");
        dueGo(x, 1, 1, false, 1, "1 1000000");
        dueGo(x, 2, 1, false, 1, "1 1000001");
        dueGo(x, 1, 999, false, 1, "2 1");
        dueGo(x, 1, 1000, true, -1, "1 1");
        dueGo(x, 2, BILLION, true, -1, "0 1");
    }

    private static void mostUnits() {
        dueGo(atSecond(-LAST, 0), 0, MOST, false, 1, "1000000000 0");
        dueGo(atSecond(LAST, 999999999), 0, -MOST, false, -1, "-1000000000 999999999");
        dueGo(new Spanbooker(), 1, MOST, false, 1, "2000000 0");
        dueGo(new Spanbooker(), 1, -MOST, false, -1, "-2000000 0");
        dueGo(new Spanbooker(), 2, MOST, false, 1, "2 0");
        dueGo(new Spanbooker(), 2, -MOST, false, -1, "-2 0");
    }

    private static void dueApart(Spanbooker x, int seconds, int nanos) {
        Checks.due("apart(0, 1, 0)", seconds, () -> x.apart(0, 1, 0));
        Checks.due("apart(0, 1, 1)", nanos, () -> x.apart(0, 1, 1));
    }

    private static void lengthIsRoundedDown() {
        dueApart(Made.cells(0, 999999999), 0, 999999999);
        dueApart(Made.cells(0, BILLION), 1, 0);
        dueApart(Made.cells(0, -1), -1, 999999999);
        dueApart(Made.cells(1, 0), -1, 999999999);
        dueApart(Made.cells(0, -999999999), -1, 1);
        dueApart(Made.cells(0, -BILLION), -1, 0);
        dueApart(Made.cells(0, -BILLION - 1), -2, 999999999);
        dueApart(Made.cells(-1, 1), 0, 2);
        dueApart(Made.cells(1, -1), -1, 999999998);
    }

    private static void fourCells() {
        Spanbooker x = new Spanbooker();
        for (int cell = 0; cell < 4; cell++) {
            dueText(x, cell, "0 0");
        }
        Checks.due("text(4)", Checks.INDEX, () -> x.text(4));
        Checks.due("text(-1)", Checks.INDEX, () -> x.text(-1));
        for (int cell = 0; cell < 4; cell++) {
            x.set(cell, cell + 1, 0);
        }
        for (int cell = 0; cell < 4; cell++) {
            dueText(x, cell, (cell + 1) + " 0");
        }
    }

    private static void newCalendar() {
        Spanbooker x = new Spanbooker();
        Checks.same("calendar", "0..86400000000000", Made.calendar(x));
        Checks.same("frees", "0..86400000000000", Made.frees(x));
    }

    private static void newHasNoSpans() {
        Spanbooker x = new Spanbooker();
        Checks.due("spans()", 0, x::spans);
        Checks.due("ofSpan(0, 0)", Checks.INDEX, () -> x.ofSpan(0, 0));
        Checks.due("at(0)", Checks.NONE, () -> x.at(0));
    }

    private static void newHasNoWishes() {
        Spanbooker x = new Spanbooker();
        Checks.due("wishes()", 0, x::wishes);
        Checks.due("ofWish(0, 0)", Checks.INDEX, () -> x.ofWish(0, 0));
        Checks.due("chosen()", 0, x::chosen);
    }

    private static void setBehind() {
        Spanbooker x = new Spanbooker();
        dueSet(x, 5, 0, 0, "5 0");
        dueSet(x, 5, 1, 0, "5 1");
        dueSet(x, -5, 1, 0, "-5 1");
        dueSet(x, -1, BILLION, 1, "0 0");
        dueText(x, 0, "0 0");
        dueText(x, 2, "0 0");
    }

    private static void setAhead() {
        Spanbooker x = new Spanbooker();
        dueSet(x, 5, -1, -1, "4 999999999");
        dueSet(x, 0, -1, -1, "-1 999999999");
        dueSet(x, -5, -1, -1, "-6 999999999");
        dueSet(x, 1, -BILLION, -1, "0 0");
    }

    private static void setAnswers() {
        Spanbooker x = new Spanbooker();
        dueSet(x, 3, -MOST, -2, "1 0");
        dueSet(x, 3, -BILLION - 1, -2, "1 999999999");
        dueSet(x, 3, -BILLION, -1, "2 0");
        dueSet(x, 3, -1, -1, "2 999999999");
        dueSet(x, 3, 0, 0, "3 0");
        dueSet(x, 3, 999999999, 0, "3 999999999");
        dueSet(x, 3, BILLION, 1, "4 0");
        dueSet(x, 3, 1999999999, 1, "4 999999999");
        dueSet(x, 3, MOST, 2, "5 0");
    }

    private static void setRefused() {
        Spanbooker x = new Spanbooker();
        dueSet(x, LAST, 999999999, 0, "1000000000 999999999");
        Checks.dueRefused(x, "set", () -> x.set(1, LAST, BILLION));
        Checks.dueRefused(x, "set", () -> x.set(1, LAST, MOST));
        dueSet(x, LAST - 1, 1999999999, 1, "1000000000 999999999");
        Checks.dueRefused(x, "set", () -> x.set(1, LAST - 1, MOST));
        dueSet(x, LAST - 2, MOST, 2, "1000000000 0");
        dueSet(x, -LAST, 0, 0, "-1000000000 0");
        Checks.dueRefused(x, "set", () -> x.set(1, -LAST, -1));
        Checks.dueRefused(x, "set", () -> x.set(1, -LAST, -MOST));
        dueSet(x, -LAST + 1, -BILLION, -1, "-1000000000 0");
        Checks.dueRefused(x, "set", () -> x.set(1, -LAST + 1, -BILLION - 1));
        dueSet(x, -LAST + 2, -MOST, -2, "-1000000000 0");
        dueText(x, 1, "-1000000000 0");
    }

    private static void goOnAndBack() {
        Spanbooker x = new Spanbooker();
        dueGo(x, 0, 3, false, 1, "3 0");
        dueGo(x, 0, -4, false, -1, "-1 0");
        dueGo(x, 2, -1, false, -1, "-2 999999999");
        dueGo(x, 2, 1, false, 1, "-1 0");
        dueText(x, 0, "0 0");
    }

    private static void goTheOtherWay() {
        Spanbooker x = new Spanbooker();
        dueGo(x, 0, 3, true, -1, "-3 0");
        dueGo(x, 0, -4, true, 1, "1 0");
        dueGo(x, 2, 1, true, -1, "0 999999999");
        dueGo(x, 2, -1, true, 1, "1 0");
        dueGo(new Spanbooker(), 1, MOST, true, -1, "-2000000 0");
        dueGo(new Spanbooker(), 1, -MOST, true, 1, "2000000 0");
    }

    private static void goAnswers() {
        Spanbooker x = new Spanbooker();
        dueGo(x, 2, 1, false, 1, "0 1");
        dueGo(x, 2, 1, true, -1, "0 0");
        for (int unit = 0; unit < 3; unit++) {
            int none = unit;
            Checks.dueIdle(x, "go by none", 0, () -> x.go(1, none, 0, false));
            Checks.dueIdle(x, "go by none", 0, () -> x.go(1, none, 0, true));
        }
    }

    private static void goRefused() {
        Spanbooker x = atSecond(LAST, 999999998);
        dueGo(x, 2, 1, false, 1, "1000000000 999999999");
        Checks.dueRefused(x, "go", () -> x.go(1, 2, 1, false));
        Checks.dueRefused(x, "go", () -> x.go(1, 2, -1, true));
        Checks.dueRefused(x, "go", () -> x.go(1, 0, MOST, false));
        Checks.dueRefused(x, "go", () -> x.go(1, 0, -MOST, true));
        dueGo(x, 2, 0, false, 0, "1000000000 999999999");
        Spanbooker y = atSecond(-LAST, 1);
        dueGo(y, 2, 1, true, -1, "-1000000000 0");
        Checks.dueRefused(y, "go", () -> y.go(1, 2, 1, true));
        Checks.dueRefused(y, "go", () -> y.go(1, 2, -1, false));
        Checks.dueRefused(y, "go", () -> y.go(1, 0, MOST, true));
        Checks.dueRefused(y, "go", () -> y.go(1, 0, -MOST, false));
        dueGo(y, 2, 0, true, 0, "-1000000000 0");
        Spanbooker z = atSecond(-LAST, 999999999);
        dueGo(z, 0, MOST, false, 1, "1000000000 999999999");
        dueGo(z, 0, MOST, true, -1, "-1000000000 999999999");
        Checks.dueRefused(z, "go", () -> z.go(1, 0, 1, true));
    }

    private static void copyLeavesTheFirst() {
        for (int k = 0; k < 16; k++) {
            int cell = k / 4;
            int into = k % 4;
            Spanbooker x = Made.cells(10, 11, 12, 13);
            x.copy(cell, into);
            String[] want = {"10", "11", "12", "13"};
            want[into] = want[cell];
            Checks.same("copy(" + cell + ", " + into + ")", String.join(" ", want), Made.cells(x));
        }
    }

    private static void copyIntoItself() {
        Spanbooker x = Made.cells(10, 11, 12, 13);
        for (int k = 0; k < 4; k++) {
            int cell = k;
            Checks.dueIdle(x, "copy(" + k + ", " + k + ")", 0, () -> x.copy(cell, cell));
        }
    }

    private static void copyAnswers() {
        Spanbooker x = Made.cells(10, 10, 11, 9);
        Checks.dueIdle(x, "copy of the same MOMENT", 0, () -> x.copy(0, 1));
        Checks.dueAct(x, "copy of one a billionth later", 1, () -> x.copy(2, 1));
        Checks.dueAct(x, "copy of one a billionth earlier", 1, () -> x.copy(3, 0));
        Checks.same("cells", "9 11 11 9", Made.cells(x));
    }

    private static void swapAll() {
        for (int k = 0; k < 16; k++) {
            int cell = k / 4;
            int other = k % 4;
            Spanbooker x = Made.cells(10, 11, 12, 13);
            x.swap(cell, other);
            String[] want = {"10", "11", "12", "13"};
            String first = want[cell];
            want[cell] = want[other];
            want[other] = first;
            Checks.same("swap(" + cell + ", " + other + ")", String.join(" ", want), Made.cells(x));
        }
    }

    private static void swapWithItself() {
        Spanbooker x = Made.cells(10, 11, 12, 13);
        for (int k = 0; k < 4; k++) {
            int cell = k;
            Checks.dueIdle(x, "swap(" + k + ", " + k + ")", 0, () -> x.swap(cell, cell));
        }
    }

    private static void swapAnswers() {
        Spanbooker x = Made.cells(10, 10, 11, 9);
        Checks.dueIdle(x, "swap of the same MOMENT", 0, () -> x.swap(0, 1));
        Checks.dueAct(x, "swap with one a billionth later", 1, () -> x.swap(0, 2));
        Checks.dueAct(x, "swap with one a billionth earlier", 1, () -> x.swap(1, 3));
        Checks.same("cells", "11 9 10 10", Made.cells(x));
    }

    private static void pickFromEach() {
        for (int k = 0; k < 16; k++) {
            int found = k / 4;
            int into = k % 4;
            Spanbooker early = Made.cells(10, 10, 10, 10);
            early.set(found, 0, 9);
            Checks.dueAct(early, "pick(false, " + into + ")", found, () -> early.pick(false, into));
            Checks.due("nano of it", 9, () -> early.nano(into));
            Checks.due("nano of where it was", 9, () -> early.nano(found));
            Spanbooker late = Made.cells(10, 10, 10, 10);
            late.set(found, 0, 11);
            Checks.dueAct(late, "pick(true, " + into + ")", found, () -> late.pick(true, into));
            Checks.due("nano of it", 11, () -> late.nano(into));
            Checks.due("nano of where it was", 11, () -> late.nano(found));
        }
        Spanbooker all = Made.cells(7, 6, 8, 5);
        all.pick(false, 0);
        Checks.same("cells", "5 6 8 5", Made.cells(all));
        all.pick(true, 1);
        Checks.same("cells", "5 8 8 5", Made.cells(all));
        Spanbooker ends = ends();
        Checks.dueAct(ends, "pick the earliest that is LET", 0, () -> ends.pick(false, 2));
        Checks.dueAct(ends, "pick the latest that is LET", 1, () -> ends.pick(true, 3));
        dueText(ends, 2, "-1000000000 0");
        dueText(ends, 3, "1000000000 999999999");
    }

    private static void pickTheFirst() {
        Spanbooker x = Made.cells(10, 10, 10, 10);
        for (int k = 0; k < 4; k++) {
            int into = k;
            Checks.dueIdle(x, "pick the earliest of all the same", 0, () -> x.pick(false, into));
            Checks.dueIdle(x, "pick the latest of all the same", 0, () -> x.pick(true, into));
        }
        Spanbooker y = Made.cells(10, 9, 11, 9);
        Checks.dueIdle(y, "pick the earliest of two", 1, () -> y.pick(false, 3));
        Spanbooker z = Made.cells(10, 9, 11, 11);
        Checks.dueIdle(z, "pick the latest of two", 2, () -> z.pick(true, 3));
    }

    private static void secondAtTheEnds() {
        Spanbooker x = ends();
        int[] seconds = {-LAST, LAST, -1, 0};
        for (int k = 0; k < 4; k++) {
            int cell = k;
            Checks.dueAsked(x, "second(" + k + ")", seconds[k], () -> x.second(cell));
        }
    }

    private static void nanoAtTheEnds() {
        Spanbooker x = ends();
        int[] nanos = {0, 999999999, 999999999, 0};
        for (int k = 0; k < 4; k++) {
            int cell = k;
            Checks.dueAsked(x, "nano(" + k + ")", nanos[k], () -> x.nano(cell));
        }
    }

    private static void textAtTheEnds() {
        Spanbooker x = ends();
        String[] texts = {"-1000000000 0", "1000000000 999999999", "-1 999999999", "0 0"};
        for (int k = 0; k < 4; k++) {
            int cell = k;
            Checks.dueAsked(x, "text(" + k + ")", texts[k], () -> x.text(cell));
        }
        x.set(3, 1, 1);
        dueText(x, 3, "1 1");
        x.set(3, -1, 100);
        dueText(x, 3, "-1 100");
    }

    private static void orderOfOne() {
        Spanbooker x = ends();
        for (int k = 0; k < 4; k++) {
            int cell = k;
            Checks.dueAsked(x, "order of one", 0, () -> x.order(cell, cell));
        }
    }

    private static void orderByABillionth() {
        Spanbooker x = Made.cells(10, 9, 10, 11);
        Checks.dueAsked(x, "order(0, 1)", 1, () -> x.order(0, 1));
        Checks.dueAsked(x, "order(0, 2)", 0, () -> x.order(0, 2));
        Checks.dueAsked(x, "order(0, 3)", -1, () -> x.order(0, 3));
    }

    private static void isBeforeOfOne() {
        Spanbooker x = ends();
        for (int k = 0; k < 4; k++) {
            int cell = k;
            Checks.dueAsked(x, "isBefore of one", false, () -> x.isBefore(cell, cell));
        }
    }

    private static void isBeforeByABillionth() {
        Spanbooker x = Made.cells(10, 9, 10, 11);
        Checks.dueAsked(x, "isBefore(0, 1)", false, () -> x.isBefore(0, 1));
        Checks.dueAsked(x, "isBefore(0, 2)", false, () -> x.isBefore(0, 2));
        Checks.dueAsked(x, "isBefore(0, 3)", true, () -> x.isBefore(0, 3));
    }

    private static void isAfterOfOne() {
        Spanbooker x = ends();
        for (int k = 0; k < 4; k++) {
            int cell = k;
            Checks.dueAsked(x, "isAfter of one", false, () -> x.isAfter(cell, cell));
        }
    }

    private static void isAfterByABillionth() {
        Spanbooker x = Made.cells(10, 9, 10, 11);
        Checks.dueAsked(x, "isAfter(0, 1)", true, () -> x.isAfter(0, 1));
        Checks.dueAsked(x, "isAfter(0, 2)", false, () -> x.isAfter(0, 2));
        Checks.dueAsked(x, "isAfter(0, 3)", false, () -> x.isAfter(0, 3));
    }

    private static void sameOfOne() {
        Spanbooker x = ends();
        for (int k = 0; k < 12; k++) {
            int cell = k / 3;
            int how = k % 3;
            Checks.dueAsked(x, "same of one by " + how, true, () -> x.same(cell, cell, how));
        }
    }

    private static void sameEachWay() {
        Spanbooker x = Made.cells(10, 10, 11, 0);
        boolean[] unlike = {false, false, true};
        for (int k = 0; k < 3; k++) {
            int how = k;
            Checks.dueAsked(x, "same(0, 1, " + k + ")", true, () -> x.same(0, 1, how));
            Checks.dueAsked(x, "same(0, 2, " + k + ")", unlike[k], () -> x.same(0, 2, how));
        }
        Checks.dueThrown(x, "same by -1", Checks.ARGUMENT, () -> x.same(0, 1, -1));
        Checks.dueThrown(x, "same by 3", Checks.ARGUMENT, () -> x.same(0, 1, 3));
    }

    private static void sameByABillionth() {
        Spanbooker x = Made.cells(10, 9, 11, 10);
        x.set(0, 1, 10);
        for (int k = 0; k < 2; k++) {
            int how = k;
            Checks.dueAsked(x, "a billionth earlier", false, () -> x.same(3, 1, how));
            Checks.dueAsked(x, "a billionth later", false, () -> x.same(3, 2, how));
            Checks.dueAsked(x, "a second later", false, () -> x.same(3, 0, how));
        }
        Checks.dueAsked(x, "the codes of unlike ones", true, () -> x.same(3, 1, 2));
        Spanbooker y = ends();
        Checks.dueAsked(y, "the codes of the first and the last one", true, () -> y.same(0, 1, 2));
        Checks.dueAsked(y, "the first and the last one", false, () -> y.same(0, 1, 0));
        Checks.dueAsked(y, "the first and the last one", false, () -> y.same(0, 1, 1));
    }

    private static void apartOfOne() {
        Spanbooker x = ends();
        for (int k = 0; k < 8; k++) {
            int cell = k / 2;
            int what = k % 2;
            Checks.dueAsked(x, "apart of one", 0, () -> x.apart(cell, cell, what));
        }
    }

    private static void apartBothParts() {
        Spanbooker x = new Spanbooker();
        x.set(1, 3, 4);
        Checks.dueAsked(x, "apart(0, 1, 0)", 3, () -> x.apart(0, 1, 0));
        Checks.dueAsked(x, "apart(0, 1, 1)", 4, () -> x.apart(0, 1, 1));
        Checks.dueThrown(x, "apart(0, 1, -1)", Checks.ARGUMENT, () -> x.apart(0, 1, -1));
        Checks.dueThrown(x, "apart(0, 1, 2)", Checks.ARGUMENT, () -> x.apart(0, 1, 2));
    }

    private static void apartFarthest() {
        Spanbooker x = ends();
        Checks.dueAsked(x, "apart(0, 1, 0)", 2000000000, () -> x.apart(0, 1, 0));
        Checks.dueAsked(x, "apart(0, 1, 1)", 999999999, () -> x.apart(0, 1, 1));
        Checks.dueAsked(x, "apart(1, 0, 0)", -2000000001, () -> x.apart(1, 0, 0));
        Checks.dueAsked(x, "apart(1, 0, 1)", 1, () -> x.apart(1, 0, 1));
        x.swap(0, 1);
        dueApart(x, -2000000001, 1);
    }
}
