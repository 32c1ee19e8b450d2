/** Promises 1 to 7 and 18 to 25: CELLS and their MOMENTS. */
public final class MomentsTest {
    private static final int[] NO_CELL = {-1, 4, Integer.MIN_VALUE, Integer.MAX_VALUE};

    private MomentsTest() {
    }

    public static void main(String[] args) {
        promise1New();
        promise2Set();
        promise2SetWrong();
        promise3Go();
        promise3GoEdges();
        promise3GoWrong();
        promise4Copy();
        promise5Swap();
        promise6Pick();
        promise7Shift();
        promise7ShiftEdges();
        promises18To20Read();
        promises21To23Order();
        promise24Same();
        promise25Apart();
        Checks.end("MomentsTest");
    }

    private static Spanbooker at(int... seconds) {
        Spanbooker x = new Spanbooker();
        for (int cell = 0; cell < seconds.length; cell++) {
            x.set(cell, seconds[cell], 0);
        }
        return x;
    }

    private static void dueTexts(Spanbooker x, String... texts) {
        for (int k = 0; k < texts.length; k++) {
            int cell = k;
            Checks.due("text(" + k + ")", texts[k], () -> x.text(cell));
        }
    }

    private static void promise1New() {
        Spanbooker x = new Spanbooker();
        dueTexts(x, "0 0", "0 0", "0 0", "0 0");
        Checks.same("calendar", "0 0 to 86400 0", Reading.calendar(x));
        Checks.due("spans()", 0, x::spans);
        Checks.due("wishes()", 0, x::wishes);
        Checks.due("frees()", 1, x::frees);
        Checks.same("free", "0 0 to 86400 0", Reading.free(x, 0));
        for (int what = 0; what < 3; what++) {
            int k = what;
            Checks.due("house(" + k + ")", 0, () -> x.house(k));
        }
        Spanbooker other = new Spanbooker();
        other.set(0, 7, 7);
        other.wish(1, 0);
        dueTexts(x, "0 0");
        Checks.due("wishes() of the first object", 0, x::wishes);
    }

    private static void promise2Set() {
        Spanbooker x = new Spanbooker();
        Checks.dueAct(x, "set", 0, () -> x.set(0, 5, 7));
        Checks.dueAct(x, "set", 0, () -> x.set(1, -5, 999999999));
        Checks.dueAct(x, "set", 1, () -> x.set(2, 5, 1000000000));
        Checks.dueAct(x, "set", -1, () -> x.set(3, 5, -1));
        dueTexts(x, "5 7", "-5 999999999", "6 0", "4 999999999");
        Checks.dueAct(x, "set", -1, () -> x.set(0, 0, -1000000000));
        Checks.dueAct(x, "set", -2, () -> x.set(1, 0, -1000000001));
        Checks.dueAct(x, "set", 2, () -> x.set(2, -3, 2000000000));
        Checks.dueAct(x, "set", -2, () -> x.set(3, -3, -2000000000));
        dueTexts(x, "-1 0", "-2 999999999", "-1 0", "-5 0");
        Checks.dueAct(x, "set", 0, () -> x.set(0, 1000000000, 999999999));
        Checks.dueAct(x, "set", 0, () -> x.set(1, -1000000000, 0));
        Checks.dueAct(x, "set", -2, () -> x.set(2, 1000000000, -2000000000));
        Checks.dueAct(x, "set", 2, () -> x.set(3, -1000000000, 2000000000));
        dueTexts(x, "1000000000 999999999", "-1000000000 0", "999999998 0", "-999999998 0");
        Checks.dueRefused(x, "set beyond", () -> x.set(2, 1000000000, 1000000000));
        Checks.dueRefused(x, "set ahead", () -> x.set(2, -1000000000, -1));
        Checks.dueAct(x, "set", 1, () -> x.set(0, 999999999, 1999999999));
        Checks.dueRefused(x, "set beyond", () -> x.set(0, 999999999, 2000000000));
        dueTexts(x, "1000000000 999999999");
    }

    private static void promise2SetWrong() {
        Spanbooker x = at(1, 2, 3, 4);
        for (int cell : NO_CELL) {
            Checks.dueThrown(x, "set of no cell", Checks.INDEX, () -> x.set(cell, 0, 0));
            Checks.dueThrown(x, "set of no cell, all wrong", Checks.INDEX, () -> x.set(cell, 1000000001, 2000000001));
        }
        for (int second : new int[] {1000000001, -1000000001, Integer.MIN_VALUE, Integer.MAX_VALUE}) {
            Checks.dueThrown(x, "set of no second", Checks.ARGUMENT, () -> x.set(0, second, 0));
        }
        for (int nanos : new int[] {2000000001, -2000000001, Integer.MIN_VALUE, Integer.MAX_VALUE}) {
            Checks.dueThrown(x, "set of too many nanos", Checks.ARGUMENT, () -> x.set(0, 0, nanos));
            Checks.dueThrown(x, "set, ahead of REFUSED", Checks.ARGUMENT, () -> x.set(0, 1000000000, nanos));
        }
    }

    private static void promise3Go() {
        Spanbooker x = at(10, 10, 10, 10);
        Checks.dueAct(x, "go", 1, () -> x.go(0, 0, 3, false));
        Checks.dueAct(x, "go", -1, () -> x.go(1, 0, 3, true));
        Checks.dueAct(x, "go", -1, () -> x.go(2, 1, -1, false));
        Checks.dueAct(x, "go", 1, () -> x.go(3, 2, -1, true));
        dueTexts(x, "13 0", "7 0", "9 999000000", "10 1");
        Checks.dueAct(x, "go", 0, () -> x.go(0, 0, 0, false));
        Checks.dueAct(x, "go", 0, () -> x.go(0, 1, 0, true));
        Checks.dueAct(x, "go", -1, () -> x.go(0, 2, 2000000000, true));
        Checks.dueAct(x, "go", 1, () -> x.go(1, 1, 2000000000, false));
        Checks.dueAct(x, "go", -1, () -> x.go(2, 1, -2000000000, false));
        dueTexts(x, "11 0", "2000007 0", "-1999991 999000000", "10 1");
    }

    private static void promise3GoEdges() {
        Spanbooker x = at(-1000000000, 1000000000, 1000000000, 0);
        Checks.dueAct(x, "go", 1, () -> x.go(1, 2, 999999999, false));
        Checks.dueRefused(x, "go beyond", () -> x.go(1, 2, 1, false));
        Checks.dueRefused(x, "go beyond", () -> x.go(1, 2, -1, true));
        Checks.dueRefused(x, "go ahead", () -> x.go(0, 2, -1, false));
        Checks.dueRefused(x, "go ahead", () -> x.go(0, 2, 1, true));
        Checks.dueRefused(x, "go far beyond", () -> x.go(1, 0, 2000000000, false));
        Checks.dueRefused(x, "go far ahead", () -> x.go(0, 0, 2000000000, true));
        Checks.dueAct(x, "go", 1, () -> x.go(0, 0, 2000000000, false));
        Checks.dueAct(x, "go", -1, () -> x.go(2, 0, -2000000000, false));
        dueTexts(x, "1000000000 0", "1000000000 999999999", "-1000000000 0");
    }

    private static void promise3GoWrong() {
        Spanbooker x = at(1, 2, 3, 4);
        for (int cell : NO_CELL) {
            Checks.dueThrown(x, "go of no cell", Checks.INDEX, () -> x.go(cell, 0, 1, false));
            Checks.dueThrown(x, "go of no cell, all wrong", Checks.INDEX, () -> x.go(cell, 3, 2000000001, true));
        }
        for (int unit : new int[] {-1, 3, Integer.MIN_VALUE, Integer.MAX_VALUE}) {
            Checks.dueThrown(x, "go by no unit", Checks.ARGUMENT, () -> x.go(0, unit, 1, false));
        }
        for (int n : new int[] {2000000001, -2000000001, Integer.MIN_VALUE, Integer.MAX_VALUE}) {
            Checks.dueThrown(x, "go by too many", Checks.ARGUMENT, () -> x.go(0, 2, n, false));
            Checks.dueThrown(x, "go by too many, ahead of REFUSED", Checks.ARGUMENT, () -> x.go(0, 0, n, true));
        }
    }

    private static void promise4Copy() {
        Spanbooker x = at(1, 2, 3, 1);
        Checks.dueAct(x, "copy", 1, () -> x.copy(1, 2));
        Checks.dueAct(x, "copy", 0, () -> x.copy(0, 3));
        Checks.dueAct(x, "copy", 0, () -> x.copy(1, 1));
        dueTexts(x, "1 0", "2 0", "2 0", "1 0");
        x.go(2, 2, 1, false);
        Checks.dueAct(x, "copy of one a billionth later", 1, () -> x.copy(2, 0));
        dueTexts(x, "2 1", "2 0", "2 1", "1 0");
        for (int cell : NO_CELL) {
            Checks.dueThrown(x, "copy of no cell", Checks.INDEX, () -> x.copy(cell, 0));
            Checks.dueThrown(x, "copy into no cell", Checks.INDEX, () -> x.copy(0, cell));
        }
    }

    private static void promise5Swap() {
        Spanbooker x = at(1, 2, 3, 1);
        Checks.dueAct(x, "swap", 1, () -> x.swap(0, 2));
        Checks.dueAct(x, "swap", 1, () -> x.swap(3, 1));
        dueTexts(x, "3 0", "1 0", "1 0", "2 0");
        Checks.dueAct(x, "swap", 0, () -> x.swap(1, 2));
        Checks.dueAct(x, "swap", 0, () -> x.swap(3, 3));
        dueTexts(x, "3 0", "1 0", "1 0", "2 0");
        for (int cell : NO_CELL) {
            Checks.dueThrown(x, "swap of no cell", Checks.INDEX, () -> x.swap(cell, 0));
            Checks.dueThrown(x, "swap with no cell", Checks.INDEX, () -> x.swap(0, cell));
        }
    }

    private static void promise6Pick() {
        Spanbooker x = at(5, 9, 2, 9);
        Checks.dueAct(x, "pick the latest", 1, () -> x.pick(true, 0));
        dueTexts(x, "9 0", "9 0", "2 0", "9 0");
        Checks.dueAct(x, "pick the first latest", 0, () -> x.pick(true, 3));
        Checks.dueAct(x, "pick the earliest", 2, () -> x.pick(false, 3));
        Checks.dueAct(x, "pick the first earliest", 2, () -> x.pick(false, 2));
        dueTexts(x, "9 0", "9 0", "2 0", "2 0");
        Spanbooker y = at(5, 5, 5, 5);
        Checks.dueAct(y, "pick of all the same", 0, () -> y.pick(false, 1));
        Checks.dueAct(y, "pick of all the same", 0, () -> y.pick(true, 3));
        y.go(3, 2, -1, false);
        Checks.dueAct(y, "pick a billionth earlier", 3, () -> y.pick(false, 0));
        dueTexts(y, "4 999999999", "5 0", "5 0", "4 999999999");
        for (int cell : NO_CELL) {
            Checks.dueThrown(x, "pick into no cell", Checks.INDEX, () -> x.pick(true, cell));
            Checks.dueThrown(x, "pick into no cell", Checks.INDEX, () -> x.pick(false, cell));
        }
    }

    private static void promise7Shift() {
        Spanbooker x = at(1, 2, 3, 4);
        Checks.dueAct(x, "shift", 6, () -> x.shift(0, 10));
        dueTexts(x, "11 0", "12 0", "13 0", "14 0");
        Checks.same("calendar", "10 0 to 86410 0", Reading.calendar(x));
        x.book(0, 1, true);
        x.book(2, 3, false);
        x.wish(0, 3);
        Checks.dueAct(x, "shift", 12, () -> x.shift(1, -11001));
        dueTexts(x, "-1 999000000", "0 999000000", "1 999000000", "2 999000000");
        Checks.same("calendar", "-2 999000000 to 86398 999000000", Reading.calendar(x));
        Checks.same("span", "-1 999000000 to 0 999000000 over", Reading.span(x, 0));
        Checks.same("span", "1 999000000 to 2 999000000", Reading.span(x, 1));
        Checks.same("wish", "-1 999000000 to 2 999000000", Reading.wish(x, 0));
        Checks.dueAct(x, "shift", 12, () -> x.shift(2, 1000000));
        Checks.dueAct(x, "shift by none", 12, () -> x.shift(0, 0));
        Checks.same("calendar", "-1 0 to 86399 0", Reading.calendar(x));
        for (int unit : new int[] {-1, 3, Integer.MIN_VALUE, Integer.MAX_VALUE}) {
            Checks.dueThrown(x, "shift by no unit", Checks.ARGUMENT, () -> x.shift(unit, 0));
        }
        for (int n : new int[] {2000000001, -2000000001, Integer.MIN_VALUE, Integer.MAX_VALUE}) {
            Checks.dueThrown(x, "shift by too many", Checks.ARGUMENT, () -> x.shift(2, n));
            Checks.dueThrown(x, "shift, ahead of REFUSED", Checks.ARGUMENT, () -> x.shift(0, n));
        }
    }

    /** Each kind of MOMENT alone can hold the shift back. */
    private static void promise7ShiftEdges() {
        Spanbooker x = at(0, 0, 0, 1);
        Checks.dueRefused(x, "shift of a cell", () -> x.shift(0, 1000000000));
        x.set(3, 0, 0);
        Checks.dueRefused(x, "shift of UNTIL", () -> x.shift(0, 999913601));
        Checks.dueAct(x, "shift", 6, () -> x.shift(0, 999913600));
        Checks.dueAct(x, "shift", 6, () -> x.shift(2, 999999999));
        Checks.dueRefused(x, "shift of UNTIL", () -> x.shift(2, 1));
        Checks.dueAct(x, "shift", 6, () -> x.shift(0, -1999913600));
        Checks.dueAct(x, "shift", 6, () -> x.shift(2, -999999999));
        Checks.dueRefused(x, "shift of FROM", () -> x.shift(2, -1));
        Checks.same("calendar", "-1000000000 0 to -999913600 0", Reading.calendar(x));

        Spanbooker y = at(-5, 5, 0, 0);
        y.wish(0, 2);
        y.wish(2, 1);
        y.set(0, 0, 0);
        y.set(1, 1, 0);
        y.open(0, 1);
        Checks.dueRefused(y, "shift of a wish's begin", () -> y.shift(0, -999999996));
        Checks.dueRefused(y, "shift of a wish's end", () -> y.shift(0, 999999996));
        Checks.dueAct(y, "shift", 10, () -> y.shift(0, -999999995));
        Checks.same("wish", "-1000000000 0 to -999999995 0", Reading.wish(y, 0));

        Spanbooker w = at(100, 100, 100, 100);
        Checks.dueAct(w, "shift", 6, () -> w.shift(0, -1000000000));
        Checks.dueRefused(w, "shift of FROM alone", () -> w.shift(2, -1));

        Spanbooker z = at(0, 10, 1000000000, 0);
        z.open(0, 2);
        z.book(0, 1, false);
        z.set(2, 0, 0);
        Checks.dueRefused(z, "shift of UNTIL alone", () -> z.shift(0, 1));
        Checks.dueRefused(z, "shift far", () -> z.shift(0, 2000000000));
        Checks.dueRefused(z, "shift far back", () -> z.shift(0, -2000000000));
    }

    private static void promises18To20Read() {
        Spanbooker x = new Spanbooker();
        x.set(0, -1000000000, 0);
        x.set(1, 1000000000, 999999999);
        x.set(2, 0, -1);
        x.set(3, 12, 34);
        int[] seconds = {-1000000000, 1000000000, -1, 12};
        int[] nanos = {0, 999999999, 999999999, 34};
        for (int k = 0; k < 4; k++) {
            int cell = k;
            Checks.due("second", seconds[k], () -> x.second(cell));
            Checks.due("nano", nanos[k], () -> x.nano(cell));
            Checks.due("text", seconds[k] + " " + nanos[k], () -> x.text(cell));
        }
        for (int cell : NO_CELL) {
            Checks.dueThrown(x, "second of no cell", Checks.INDEX, () -> x.second(cell));
            Checks.dueThrown(x, "nano of no cell", Checks.INDEX, () -> x.nano(cell));
            Checks.dueThrown(x, "text of no cell", Checks.INDEX, () -> x.text(cell));
        }
    }

    private static void promises21To23Order() {
        Spanbooker x = new Spanbooker();
        x.set(0, -1, 999999999);
        x.set(1, 0, 0);
        x.set(2, 0, 0);
        x.set(3, 1000000000, 1);
        for (int k = 0; k < 16; k++) {
            int one = k / 4;
            int other = k % 4;
            int way = one % 3 == 0 || other % 3 == 0 ? Integer.compare(one, other) : 0;
            Checks.due("order" + k, way, () -> x.order(one, other));
            Checks.due("isBefore" + k, way < 0, () -> x.isBefore(one, other));
            Checks.due("isAfter" + k, way > 0, () -> x.isAfter(one, other));
        }
        for (int cell : NO_CELL) {
            Checks.dueThrown(x, "order", Checks.INDEX, () -> x.order(cell, 0));
            Checks.dueThrown(x, "order", Checks.INDEX, () -> x.order(0, cell));
            Checks.dueThrown(x, "isBefore", Checks.INDEX, () -> x.isBefore(cell, 0));
            Checks.dueThrown(x, "isBefore", Checks.INDEX, () -> x.isBefore(0, cell));
            Checks.dueThrown(x, "isAfter", Checks.INDEX, () -> x.isAfter(cell, 0));
            Checks.dueThrown(x, "isAfter", Checks.INDEX, () -> x.isAfter(0, cell));
        }
    }

    private static void promise24Same() {
        Spanbooker x = at(1, 1, 2, 1);
        x.go(3, 2, 1, false);
        for (int k = 0; k < 16; k++) {
            int one = k / 4;
            int other = k % 4;
            boolean isSame = one == other || one < 2 && other < 2;
            Checks.due("same by 0 of " + k, isSame, () -> x.same(one, other, 0));
            Checks.due("same by 1 of " + k, isSame, () -> x.same(one, other, 1));
            Checks.due("same by 2 of " + k, true, () -> x.same(one, other, 2));
        }
        for (int cell : NO_CELL) {
            Checks.dueThrown(x, "same", Checks.INDEX, () -> x.same(cell, 0, 2));
            Checks.dueThrown(x, "same", Checks.INDEX, () -> x.same(0, cell, 2));
            Checks.dueThrown(x, "same, all wrong", Checks.INDEX, () -> x.same(cell, cell, 3));
        }
        for (int how : new int[] {-1, 3, Integer.MIN_VALUE, Integer.MAX_VALUE}) {
            Checks.dueThrown(x, "same by nothing", Checks.ARGUMENT, () -> x.same(0, 1, how));
        }
    }

    private static void promise25Apart() {
        Spanbooker x = new Spanbooker();
        x.set(0, -1000000000, 0);
        x.set(1, 1000000000, 999999999);
        x.set(2, 5, 3);
        x.set(3, 5, 1);
        dueApart(x, 0, 1, 2000000000, 999999999);
        dueApart(x, 1, 0, -2000000001, 1);
        dueApart(x, 2, 3, -1, 999999998);
        dueApart(x, 3, 2, 0, 2);
        dueApart(x, 2, 2, 0, 0);
        dueApart(x, 0, 2, 1000000005, 3);
        for (int cell : NO_CELL) {
            Checks.dueThrown(x, "apart", Checks.INDEX, () -> x.apart(cell, 0, 0));
            Checks.dueThrown(x, "apart", Checks.INDEX, () -> x.apart(0, cell, 1));
            Checks.dueThrown(x, "apart, all wrong", Checks.INDEX, () -> x.apart(0, cell, 2));
        }
        for (int what : new int[] {-1, 2, Integer.MIN_VALUE, Integer.MAX_VALUE}) {
            Checks.dueThrown(x, "apart of nothing", Checks.ARGUMENT, () -> x.apart(0, 1, what));
        }
    }

    private static void dueApart(Spanbooker x, int one, int other, int seconds, int nanos) {
        Checks.due("apart seconds", seconds, () -> x.apart(one, other, 0));
        Checks.due("apart nanos", nanos, () -> x.apart(one, other, 1));
    }
}
