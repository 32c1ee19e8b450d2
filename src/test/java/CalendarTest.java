/** Promises 8 to 14 and 26 to 37: the CALENDAR, its SPANS and what is FREE. */
public final class CalendarTest {
    private static final int[] NO_CELL = {-1, 4, Integer.MIN_VALUE, Integer.MAX_VALUE};
    private static final int[] NO_UNIT = {-1, 3, Integer.MIN_VALUE, Integer.MAX_VALUE};
    private static final int[] TOO_MANY = {2000000001, -2000000001, Integer.MIN_VALUE, Integer.MAX_VALUE};

    private CalendarTest() {
    }

    public static void main(String[] args) {
        promise8Open();
        promise9Book();
        promise9BookEdges();
        promise9BookTen();
        promise10Unbook();
        promise11Empty();
        promise12Move();
        promise12MoveOver();
        promise12MoveWrong();
        promise13Stretch();
        promise13StretchOver();
        promise13StretchWrong();
        promise14Fit();
        promise14FitBetween();
        promise14FitEdges();
        promise14FitWrong();
        promises26To28Read();
        promise29Meets();
        promise30Clashes();
        promise31At();
        promise32Deepest();
        promise33IsFree();
        promises34To36Frees();
        promises34To36Touching();
        promise37Length();
        promise37LengthEdges();
        Checks.end("CalendarTest");
    }

    /** A calendar from second 0 to the given one, with spans begin, end, begin, end .. that are booked over. */
    private static Spanbooker calendar(int until, int... spans) {
        Spanbooker x = new Spanbooker();
        x.set(1, until, 0);
        x.open(0, 1);
        for (int k = 0; k + 1 < spans.length; k += 2) {
            book(x, spans[k], spans[k + 1], true);
        }
        return x;
    }

    private static int book(Spanbooker x, int begin, int end, boolean isOver) {
        x.set(2, begin, 0);
        x.set(3, end, 0);
        return x.book(2, 3, isOver);
    }

    private static void dueSpans(Spanbooker x, String... texts) {
        Checks.due("spans()", texts.length, x::spans);
        for (int k = 0; k < Math.min(texts.length, x.spans()); k++) {
            Checks.same("span " + k, texts[k], Reading.span(x, k));
        }
    }

    private static void dueFrees(Spanbooker x, String... texts) {
        Checks.due("frees()", texts.length, x::frees);
        for (int k = 0; k < Math.min(texts.length, x.frees()); k++) {
            Checks.same("free " + k, texts[k], Reading.free(x, k));
        }
    }

    private static void promise8Open() {
        Spanbooker x = new Spanbooker();
        x.set(1, -5, 1);
        Checks.dueAct(x, "open", 0, () -> x.open(1, 0));
        Checks.same("calendar", "-5 1 to 0 0", Reading.calendar(x));
        x.set(2, -3, 0);
        x.book(1, 2, false);
        x.book(1, 0, true);
        x.wish(1, 2);
        Checks.dueRefused(x, "open backwards", () -> x.open(0, 1));
        Checks.dueRefused(x, "open of nothing", () -> x.open(0, 3));
        Checks.dueRefused(x, "open of one cell", () -> x.open(1, 1));
        dueSpans(x, "-5 1 to -3 0", "-5 1 to 0 0 over");
        Checks.dueAct(x, "open", 2, () -> x.open(1, 0));
        dueSpans(x);
        Checks.due("wishes stay", 1, x::wishes);
        x.copy(0, 1);
        x.go(1, 2, -1, false);
        Checks.dueAct(x, "open of a billionth", 0, () -> x.open(1, 0));
        Checks.same("calendar", "-1 999999999 to 0 0", Reading.calendar(x));
        for (int cell : NO_CELL) {
            Checks.dueThrown(x, "open from no cell", Checks.INDEX, () -> x.open(cell, 0));
            Checks.dueThrown(x, "open until no cell", Checks.INDEX, () -> x.open(1, cell));
        }
    }

    private static void promise9Book() {
        Spanbooker x = calendar(100);
        x.set(2, 10, 0);
        x.set(3, 20, 0);
        Checks.dueAct(x, "book", 0, () -> x.book(2, 3, false));
        Checks.dueRefused(x, "book the same", () -> x.book(2, 3, false));
        Checks.dueAct(x, "book the same over", 1, () -> x.book(2, 3, true));
        x.set(2, 19, 999999999);
        Checks.dueRefused(x, "book one that meets by a billionth", () -> x.book(2, 1, false));
        Checks.dueAct(x, "book one behind", 2, () -> x.book(3, 1, false));
        x.set(2, 10, 1);
        Checks.dueRefused(x, "book one that meets by a billionth", () -> x.book(0, 2, false));
        x.set(2, 10, 0);
        Checks.dueAct(x, "book one ahead", 3, () -> x.book(0, 2, false));
        dueSpans(x, "10 0 to 20 0", "10 0 to 20 0 over", "20 0 to 100 0", "0 0 to 10 0");
        Checks.dueAct(x, "book all over", 4, () -> x.book(0, 1, true));
        Checks.due("ofSpan over", 0, () -> x.ofSpan(0, 4));
        x.unbook(0);
        x.unbook(1);
        x.unbook(1);
        dueSpans(x, "10 0 to 20 0 over", "0 0 to 100 0 over");
        Checks.dueRefused(x, "book one that meets only over ones", () -> x.book(2, 3, false));
    }

    private static void promise9BookEdges() {
        Spanbooker x = calendar(100);
        x.set(2, 100, 1);
        x.set(3, 0, -1);
        Checks.dueRefused(x, "book beyond UNTIL", () -> x.book(0, 2, true));
        Checks.dueRefused(x, "book ahead of FROM", () -> x.book(3, 1, true));
        Checks.dueRefused(x, "book around all", () -> x.book(3, 2, true));
        Checks.dueRefused(x, "book beyond", () -> x.book(1, 2, true));
        Checks.dueRefused(x, "book ahead", () -> x.book(3, 0, true));
        Checks.dueRefused(x, "book of nothing", () -> x.book(0, 0, true));
        Checks.dueRefused(x, "book backwards", () -> x.book(1, 0, true));
        x.set(2, 0, 1);
        Checks.dueAct(x, "book a billionth", 0, () -> x.book(0, 2, false));
        Checks.dueAct(x, "book the rest", 1, () -> x.book(2, 1, false));
        for (int cell : NO_CELL) {
            Checks.dueThrown(x, "book from no cell", Checks.INDEX, () -> x.book(cell, 1, true));
            Checks.dueThrown(x, "book to no cell", Checks.INDEX, () -> x.book(0, cell, false));
        }
    }

    private static void promise9BookTen() {
        Spanbooker x = calendar(100);
        for (int k = 0; k < 10; k++) {
            int number = k;
            x.set(2, k, 0);
            Checks.dueAct(x, "book", number, () -> x.book(2, 1, true));
        }
        Checks.dueRefused(x, "book the eleventh", () -> x.book(0, 1, true));
        Checks.dueRefused(x, "book the eleventh", () -> x.book(0, 1, false));
        Checks.due("deepest()", 10, x::deepest);
        Checks.due("clashes()", 45, x::clashes);
        x.unbook(9);
        Checks.dueAct(x, "book the tenth", 9, () -> x.book(0, 1, true));
    }

    private static void promise10Unbook() {
        Spanbooker x = calendar(100, 50, 60, 10, 20);
        book(x, 70, 80, false);
        book(x, 0, 100, true);
        Checks.dueAct(x, "unbook", 3, () -> x.unbook(1));
        dueSpans(x, "50 0 to 60 0 over", "70 0 to 80 0", "0 0 to 100 0 over");
        Checks.dueAct(x, "unbook", 2, () -> x.unbook(0));
        dueSpans(x, "70 0 to 80 0", "0 0 to 100 0 over");
        Checks.dueThrown(x, "unbook none", Checks.INDEX, () -> x.unbook(2));
        Checks.dueAct(x, "unbook the last", 1, () -> x.unbook(1));
        dueSpans(x, "70 0 to 80 0");
        for (int k : new int[] {-1, 1, 10, Integer.MIN_VALUE, Integer.MAX_VALUE}) {
            Checks.dueThrown(x, "unbook none", Checks.INDEX, () -> x.unbook(k));
        }
        Checks.dueAct(x, "unbook the only one", 0, () -> x.unbook(0));
        Checks.dueThrown(x, "unbook none", Checks.INDEX, () -> x.unbook(0));
        Checks.same("book afresh", 0, book(x, 5, 6, false));
        dueSpans(x, "5 0 to 6 0");
    }

    private static void promise11Empty() {
        Spanbooker x = calendar(100, 50, 60, 10, 20, 0, 100);
        x.wish(0, 1);
        Checks.dueAct(x, "empty", 3, x::empty);
        dueSpans(x);
        Checks.dueAct(x, "empty again", 0, x::empty);
        Checks.same("calendar", "0 0 to 100 0", Reading.calendar(x));
        Checks.due("wishes stay", 1, x::wishes);
    }

    private static void promise12Move() {
        Spanbooker x = calendar(100);
        book(x, 10, 20, false);
        book(x, 40, 50, false);
        book(x, 90, 100, true);
        Checks.dueAct(x, "move", 0, () -> x.move(0, 0, 20));
        Checks.dueRefused(x, "move onto another one", () -> x.move(0, 2, 1));
        Checks.dueAct(x, "move across", 1, () -> x.move(0, 0, 20));
        dueSpans(x, "50 0 to 60 0", "40 0 to 50 0", "90 0 to 100 0 over");
        Checks.dueRefused(x, "move onto another one", () -> x.move(0, 1, -1));
        Checks.dueAct(x, "move not at all", 1, () -> x.move(0, 0, 0));
        Checks.dueAct(x, "move", 1, () -> x.move(0, 0, 30));
        Checks.dueRefused(x, "move onto one that is over", () -> x.move(0, 2, 1));
        Checks.dueRefused(x, "move beyond", () -> x.move(2, 2, 1));
        Checks.dueAct(x, "move", 0, () -> x.move(1, 1, -40000));
        Checks.dueRefused(x, "move ahead", () -> x.move(1, 2, -1));
        Checks.dueRefused(x, "move far", () -> x.move(1, 0, 2000000000));
        Checks.dueRefused(x, "move far back", () -> x.move(1, 0, -2000000000));
        Checks.dueAct(x, "move not at all", 2, () -> x.move(2, 2, 0));
        dueSpans(x, "80 0 to 90 0", "0 0 to 10 0", "90 0 to 100 0 over");
    }

    /** Booked over or not: who moves meets none; what begins as early is not earlier. */
    private static void promise12MoveOver() {
        Spanbooker x = calendar(100, 10, 20, 10, 30);
        book(x, 50, 60, false);
        Checks.dueRefused(x, "move by nothing where one is met", () -> x.move(0, 0, 0));
        Checks.dueRefused(x, "move an over one onto another one", () -> x.move(0, 0, 35));
        Checks.dueAct(x, "move an over one", 1, () -> x.move(0, 0, 20));
        dueSpans(x, "30 0 to 40 0 over", "10 0 to 30 0 over", "50 0 to 60 0");
        Spanbooker y = calendar(100, 10, 20, 10, 30, 0, 5);
        book(y, 60, 70, false);
        Checks.dueAct(y, "move behind two that begin together", 3, () -> y.move(3, 2, -2000000000));
        dueSpans(y, "10 0 to 20 0 over", "10 0 to 30 0 over", "0 0 to 5 0 over", "58 0 to 68 0");
    }

    private static void promise12MoveWrong() {
        Spanbooker x = calendar(100, 10, 20, 30, 40);
        for (int k : new int[] {-1, 2, 10, Integer.MIN_VALUE, Integer.MAX_VALUE}) {
            Checks.dueThrown(x, "move of none", Checks.INDEX, () -> x.move(k, 0, 0));
            Checks.dueThrown(x, "move of none, all wrong", Checks.INDEX, () -> x.move(k, 3, 2000000001));
        }
        for (int unit : NO_UNIT) {
            Checks.dueThrown(x, "move by no unit", Checks.ARGUMENT, () -> x.move(0, unit, 0));
        }
        for (int n : TOO_MANY) {
            Checks.dueThrown(x, "move by too many", Checks.ARGUMENT, () -> x.move(0, 2, n));
        }
    }

    private static void promise13Stretch() {
        Spanbooker x = calendar(100);
        book(x, 10, 20, false);
        book(x, 40, 50, false);
        book(x, 90, 100, true);
        Checks.dueAct(x, "stretch", 0, () -> x.stretch(0, 0, 20));
        Checks.dueRefused(x, "stretch onto another one", () -> x.stretch(0, 2, 1));
        Checks.dueRefused(x, "stretch across another one", () -> x.stretch(0, 0, 20));
        Checks.dueAct(x, "stretch", 1, () -> x.stretch(1, 0, 40));
        Checks.dueRefused(x, "stretch onto one that is over", () -> x.stretch(1, 1, 1));
        Checks.dueRefused(x, "stretch beyond", () -> x.stretch(2, 2, 1));
        Checks.dueAct(x, "stretch not at all", 2, () -> x.stretch(2, 1, 0));
        Checks.dueRefused(x, "stretch to nothing", () -> x.stretch(1, 0, -50));
        Checks.dueRefused(x, "stretch below nothing", () -> x.stretch(1, 0, -51));
        Checks.dueAct(x, "stretch", 1, () -> x.stretch(1, 0, -49));
        Checks.dueAct(x, "stretch to a billionth", 1, () -> x.stretch(1, 2, -999999999));
        Checks.dueRefused(x, "stretch to nothing", () -> x.stretch(1, 2, -1));
        Checks.dueRefused(x, "stretch far", () -> x.stretch(2, 0, 2000000000));
        Checks.dueRefused(x, "stretch far back", () -> x.stretch(2, 0, -2000000000));
        dueSpans(x, "10 0 to 40 0", "40 0 to 40 1", "90 0 to 100 0 over");
    }

    /** Booked over or not: who is stretched meets none; what ends as early is not earlier. */
    private static void promise13StretchOver() {
        Spanbooker x = calendar(100, 10, 20, 15, 30);
        Checks.dueRefused(x, "stretch by nothing where one is met", () -> x.stretch(0, 0, 0));
        Checks.dueRefused(x, "stretch one that is met at its end", () -> x.stretch(1, 0, -5));
        Checks.dueAct(x, "stretch", 0, () -> x.stretch(0, 0, -5));
        dueSpans(x, "10 0 to 15 0 over", "15 0 to 30 0 over");
        Spanbooker y = calendar(100, 10, 20, 15, 20, 0, 5, 50, 60);
        Checks.dueAct(y, "stretch", 3, () -> y.stretch(3, 0, 40));
        Checks.dueAct(y, "stretch", 0, () -> y.stretch(2, 0, 5));
        Checks.dueAct(y, "stretch where two end together", 0, () -> y.stretch(2, 0, -1));
        book(y, 20, 30, true);
        Checks.dueAct(y, "stretch", 3, () -> y.stretch(4, 1, 1));
    }

    private static void promise13StretchWrong() {
        Spanbooker x = calendar(100, 10, 20, 30, 40);
        for (int k : new int[] {-1, 2, 10, Integer.MIN_VALUE, Integer.MAX_VALUE}) {
            Checks.dueThrown(x, "stretch of none", Checks.INDEX, () -> x.stretch(k, 0, 0));
            Checks.dueThrown(x, "stretch of none, all wrong", Checks.INDEX, () -> x.stretch(k, 3, 2000000001));
        }
        for (int unit : NO_UNIT) {
            Checks.dueThrown(x, "stretch by no unit", Checks.ARGUMENT, () -> x.stretch(0, unit, 0));
        }
        for (int n : TOO_MANY) {
            Checks.dueThrown(x, "stretch by too many", Checks.ARGUMENT, () -> x.stretch(0, 2, n));
        }
    }

    private static void dueFit(Spanbooker x, int unit, int n, int want, String text) {
        Checks.dueAct(x, "fit of " + n + " by " + unit, want, () -> x.fit(2, unit, n, 3));
        Checks.due("text(3)", text, () -> x.text(3));
    }

    private static void promise14Fit() {
        Spanbooker x = calendar(100, 50, 60, 10, 20, 15, 30);
        x.set(2, 0, 0);
        dueFit(x, 0, 10, 1, "0 0");
        dueFit(x, 1, 10001, 1, "30 0");
        dueFit(x, 0, 20, 0, "30 0");
        dueFit(x, 0, 21, 1, "60 0");
        dueFit(x, 0, 40, 0, "60 0");
        Checks.dueRefused(x, "fit of too much", () -> x.fit(2, 1, 40001, 3));
        Checks.dueRefused(x, "fit of too much", () -> x.fit(2, 0, 2000000000, 3));
        dueFit(x, 2, 1, 1, "0 0");
        x.set(2, 0, 1);
        dueFit(x, 0, 10, 1, "30 0");
        x.set(2, 10, 0);
        dueFit(x, 2, 1, 0, "30 0");
        x.set(2, 9, 999999999);
        dueFit(x, 2, 1, 1, "9 999999999");
        dueFit(x, 2, 2, 1, "30 0");
        Checks.dueAct(x, "fit into its own cell", 1, () -> x.fit(2, 0, 30, 2));
        Checks.due("text(2)", "60 0", () -> x.text(2));
        Checks.dueAct(x, "fit where it is", 0, () -> x.fit(2, 0, 30, 2));
        dueSpans(x, "50 0 to 60 0 over", "10 0 to 20 0 over", "15 0 to 30 0 over");
    }

    private static void promise14FitBetween() {
        Spanbooker x = calendar(100, 0, 10, 10, 20, 20, 30, 95, 100, 5, 25);
        x.set(2, 0, 0);
        dueFit(x, 0, 65, 1, "30 0");
        x.set(2, 42, 0);
        dueFit(x, 0, 53, 1, "42 0");
        Checks.dueRefused(x, "fit", () -> x.fit(2, 0, 54, 3));
        x.set(2, 97, 0);
        Checks.dueRefused(x, "fit in what is taken", () -> x.fit(2, 2, 1, 3));
        x.unbook(3);
        dueFit(x, 0, 3, 1, "97 0");
    }

    private static void promise14FitEdges() {
        Spanbooker x = calendar(100);
        x.set(2, -50, 0);
        dueFit(x, 0, 100, 0, "0 0");
        Checks.dueRefused(x, "fit", () -> x.fit(2, 0, 101, 3));
        x.set(2, 100, 0);
        Checks.dueRefused(x, "fit at UNTIL", () -> x.fit(2, 2, 1, 3));
        x.set(2, 100, -1);
        dueFit(x, 2, 1, 1, "99 999999999");
        x.set(2, 1000000000, 999999999);
        Checks.dueRefused(x, "fit far beyond", () -> x.fit(2, 0, 2000000000, 3));
        x.set(0, -1000000000, 0);
        x.open(0, 2);
        x.copy(0, 2);
        dueFit(x, 0, 2000000000, 1, "-1000000000 0");
        book(x, -1000000000, -999999999, false);
        x.set(2, -1000000000, 0);
        Checks.dueRefused(x, "fit", () -> x.fit(2, 0, 2000000000, 3));
        dueFit(x, 0, 1999999999, 0, "-999999999 0");
    }

    private static void promise14FitWrong() {
        Spanbooker x = calendar(100, 10, 20);
        for (int cell : NO_CELL) {
            Checks.dueThrown(x, "fit from no cell", Checks.INDEX, () -> x.fit(cell, 0, 1, 0));
            Checks.dueThrown(x, "fit into no cell", Checks.INDEX, () -> x.fit(0, 0, 1, cell));
            Checks.dueThrown(x, "fit into no cell, all wrong", Checks.INDEX, () -> x.fit(0, 3, 0, cell));
        }
        for (int unit : NO_UNIT) {
            Checks.dueThrown(x, "fit of no unit", Checks.ARGUMENT, () -> x.fit(0, unit, 1, 0));
        }
        for (int n : TOO_MANY) {
            Checks.dueThrown(x, "fit of too many", Checks.ARGUMENT, () -> x.fit(0, 2, n, 0));
        }
        Checks.dueThrown(x, "fit of none", Checks.ARGUMENT, () -> x.fit(0, 2, 0, 0));
        Checks.dueThrown(x, "fit of less", Checks.ARGUMENT, () -> x.fit(0, 2, -1, 0));
    }

    private static void promises26To28Read() {
        Spanbooker x = new Spanbooker();
        x.set(0, -7, 1);
        x.set(1, 9, 2);
        x.open(0, 1);
        int[] calendar = {-7, 1, 9, 2};
        for (int k = 0; k < 4; k++) {
            int what = k;
            Checks.due("calendar(" + k + ")", calendar[k], () -> x.calendar(what));
        }
        x.set(2, -3, 3);
        x.set(3, 4, 4);
        Checks.due("spans()", 0, x::spans);
        x.book(2, 3, false);
        Checks.due("spans()", 1, x::spans);
        x.book(3, 1, true);
        Checks.due("spans()", 2, x::spans);
        int[] spans = {-3, 3, 4, 4, 0, 4, 4, 9, 2, 1};
        for (int k = 0; k < 10; k++) {
            int number = k / 5;
            int what = k % 5;
            Checks.due("ofSpan(" + number + ", " + what + ")", spans[k], () -> x.ofSpan(number, what));
        }
        for (int what : new int[] {-1, 4, Integer.MIN_VALUE, Integer.MAX_VALUE}) {
            Checks.dueThrown(x, "calendar of nothing", Checks.ARGUMENT, () -> x.calendar(what));
        }
        for (int what : new int[] {-1, 5, Integer.MIN_VALUE, Integer.MAX_VALUE}) {
            Checks.dueThrown(x, "ofSpan of nothing", Checks.ARGUMENT, () -> x.ofSpan(1, what));
            Checks.dueThrown(x, "ofSpan, all wrong", Checks.INDEX, () -> x.ofSpan(2, what));
        }
        for (int k : new int[] {-1, 2, 10, Integer.MIN_VALUE, Integer.MAX_VALUE}) {
            Checks.dueThrown(x, "ofSpan of none", Checks.INDEX, () -> x.ofSpan(k, 0));
        }
    }

    private static void promise29Meets() {
        Spanbooker x = calendar(100, 10, 20, 20, 30, 19, 21, 0, 100);
        x.set(2, 0, 0);
        x.set(3, 10, 1);
        x.book(2, 3, true);
        boolean[] meet = {
            true, false, true, true, true,
            false, true, true, true, false,
            true, true, true, true, false,
            true, true, true, true, true,
            true, false, false, true, true,
        };
        for (int k = 0; k < 25; k++) {
            int one = k / 5;
            int other = k % 5;
            Checks.due("meets(" + one + ", " + other + ")", meet[k], () -> x.meets(one, other));
        }
        for (int k : new int[] {-1, 5, 10, Integer.MIN_VALUE, Integer.MAX_VALUE}) {
            Checks.dueThrown(x, "meets", Checks.INDEX, () -> x.meets(k, 0));
            Checks.dueThrown(x, "meets", Checks.INDEX, () -> x.meets(0, k));
        }
    }

    private static void promise30Clashes() {
        Spanbooker x = calendar(100);
        Checks.due("clashes()", 0, x::clashes);
        book(x, 10, 20, true);
        Checks.due("clashes()", 0, x::clashes);
        book(x, 20, 30, true);
        Checks.due("clashes()", 0, x::clashes);
        book(x, 19, 21, true);
        Checks.due("clashes()", 2, x::clashes);
        book(x, 10, 20, true);
        Checks.due("clashes()", 4, x::clashes);
    }

    private static void promise31At() {
        Spanbooker x = calendar(100, 15, 30, 10, 20, 0, 100);
        dueAt(x, 15, 0, 0);
        dueAt(x, 14, 999999999, 1);
        dueAt(x, 10, 0, 1);
        dueAt(x, 10, -1, 2);
        dueAt(x, 29, 999999999, 0);
        dueAt(x, 30, 0, 2);
        dueAt(x, 0, 0, 2);
        dueAt(x, 100, 0, Checks.NONE);
        dueAt(x, 0, -1, Checks.NONE);
        x.unbook(2);
        dueAt(x, 30, 0, Checks.NONE);
        dueAt(x, 1000000000, 999999999, Checks.NONE);
        dueAt(x, -1000000000, 0, Checks.NONE);
        for (int cell : NO_CELL) {
            Checks.dueThrown(x, "at no cell", Checks.INDEX, () -> x.at(cell));
        }
    }

    private static void dueAt(Spanbooker x, int second, int nanos, int want) {
        x.set(0, second, nanos);
        Checks.due("at " + second + " " + nanos, want, () -> x.at(0));
    }

    private static void promise32Deepest() {
        Spanbooker x = calendar(100);
        Checks.due("deepest()", 0, x::deepest);
        book(x, 10, 20, true);
        Checks.due("deepest()", 1, x::deepest);
        book(x, 20, 30, true);
        Checks.due("deepest()", 1, x::deepest);
        book(x, 0, 15, true);
        Checks.due("deepest()", 2, x::deepest);
        book(x, 15, 25, true);
        Checks.due("deepest()", 2, x::deepest);
        book(x, 12, 22, true);
        Checks.due("deepest()", 3, x::deepest);
        book(x, 40, 41, true);
        Checks.due("deepest()", 3, x::deepest);
        book(x, 0, 100, true);
        Checks.due("deepest()", 4, x::deepest);
    }

    private static void promise33IsFree() {
        Spanbooker x = calendar(100, 20, 30, 40, 50);
        dueIsFree(x, 30, 40, true);
        dueIsFree(x, 0, 20, true);
        dueIsFree(x, 50, 100, true);
        dueIsFree(x, 30, 41, false);
        dueIsFree(x, 29, 40, false);
        dueIsFree(x, 0, 100, false);
        dueIsFree(x, 22, 24, false);
        dueIsFree(x, 35, 35, false);
        dueIsFree(x, 38, 32, false);
        dueIsFree(x, 60, 101, false);
        dueIsFree(x, -1, 10, false);
        dueIsFree(x, 100, 101, false);
        x.set(2, 50, -1);
        x.set(3, 60, 0);
        Checks.due("isFree by a billionth", false, () -> x.isFree(2, 3));
        x.set(3, 50, 1);
        x.set(2, 50, 0);
        Checks.due("isFree by a billionth", true, () -> x.isFree(2, 3));
        Checks.due("isFree of one cell", false, () -> x.isFree(2, 2));
        for (int cell : NO_CELL) {
            Checks.dueThrown(x, "isFree from no cell", Checks.INDEX, () -> x.isFree(cell, 0));
            Checks.dueThrown(x, "isFree to no cell", Checks.INDEX, () -> x.isFree(0, cell));
        }
    }

    private static void dueIsFree(Spanbooker x, int begin, int end, boolean want) {
        x.set(2, begin, 0);
        x.set(3, end, 0);
        Checks.due("isFree " + begin + " to " + end, want, () -> x.isFree(2, 3));
    }

    private static void dueFreeAt(Spanbooker x, int second, int nanos, int want) {
        x.set(0, second, nanos);
        Checks.due("freeAt " + second + " " + nanos, want, () -> x.freeAt(0));
    }

    private static void promises34To36Frees() {
        Spanbooker x = calendar(100, 60, 70, 20, 30, 25, 40, 26, 28);
        dueFrees(x, "0 0 to 20 0", "40 0 to 60 0", "70 0 to 100 0");
        dueFreeAt(x, 0, 0, 0);
        dueFreeAt(x, 0, -1, Checks.NONE);
        dueFreeAt(x, 20, -1, 0);
        dueFreeAt(x, 20, 0, Checks.NONE);
        dueFreeAt(x, 40, -1, Checks.NONE);
        dueFreeAt(x, 40, 0, 1);
        dueFreeAt(x, 59, 0, 1);
        dueFreeAt(x, 70, 0, 2);
        dueFreeAt(x, 100, -1, 2);
        dueFreeAt(x, 100, 0, Checks.NONE);
        for (int k : new int[] {-1, 3, 11, Integer.MIN_VALUE, Integer.MAX_VALUE}) {
            Checks.dueThrown(x, "ofFree of none", Checks.INDEX, () -> x.ofFree(k, 0));
            Checks.dueThrown(x, "ofFree of none, all wrong", Checks.INDEX, () -> x.ofFree(k, 4));
        }
        for (int what : new int[] {-1, 4, Integer.MIN_VALUE, Integer.MAX_VALUE}) {
            Checks.dueThrown(x, "ofFree of nothing", Checks.ARGUMENT, () -> x.ofFree(2, what));
        }
        for (int cell : NO_CELL) {
            Checks.dueThrown(x, "freeAt no cell", Checks.INDEX, () -> x.freeAt(cell));
        }
    }

    private static void promises34To36Touching() {
        Spanbooker x = calendar(100);
        dueFrees(x, "0 0 to 100 0");
        book(x, 0, 10, false);
        dueFrees(x, "10 0 to 100 0");
        book(x, 90, 100, false);
        dueFrees(x, "10 0 to 90 0");
        book(x, 40, 50, false);
        book(x, 50, 60, false);
        dueFrees(x, "10 0 to 40 0", "60 0 to 90 0");
        book(x, 10, 40, true);
        dueFrees(x, "60 0 to 90 0");
        x.stretch(3, 2, -1);
        dueFrees(x, "59 999999999 to 90 0");
        book(x, 0, 100, true);
        dueFrees(x);
        dueFreeAt(x, 70, 0, Checks.NONE);
        Checks.dueThrown(x, "ofFree of none", Checks.INDEX, () -> x.ofFree(0, 0));

        Spanbooker fresh = calendar(100, 0, 30);
        Checks.due("ofFree, asked first of all", 30, () -> fresh.ofFree(0, 0));
        fresh.unbook(0);
        Checks.due("ofFree, asked first behind an act", 0, () -> fresh.ofFree(0, 0));
        book(fresh, 0, 40, false);
        Checks.due("freeAt, asked first behind an act", Checks.NONE, () -> fresh.freeAt(2));
        Checks.due("freeAt", 0, () -> fresh.freeAt(3));

        Spanbooker y = calendar(100, 81, 82, 71, 72, 61, 62, 51, 52, 41, 42, 31, 32, 21, 22, 11, 12, 91, 92, 1, 2);
        Checks.due("frees()", 11, y::frees);
        Checks.same("the first", "0 0 to 1 0", Reading.free(y, 0));
        Checks.same("the sixth", "42 0 to 51 0", Reading.free(y, 5));
        Checks.same("the last", "92 0 to 100 0", Reading.free(y, 10));
        Checks.same("what is taken", "10 0", Reading.length(y, 0));
        dueFreeAt(y, 95, 0, 10);
    }

    private static void promise37Length() {
        Spanbooker x = calendar(100);
        Checks.same("taken", "0 0", Reading.length(x, 0));
        Checks.same("free", "100 0", Reading.length(x, 2));
        Checks.same("calendar", "100 0", Reading.length(x, 4));
        book(x, 10, 30, true);
        book(x, 20, 40, true);
        book(x, 25, 26, true);
        Checks.same("taken", "30 0", Reading.length(x, 0));
        Checks.same("free", "70 0", Reading.length(x, 2));
        book(x, 60, 70, true);
        x.stretch(3, 2, -1);
        Checks.same("taken", "39 999999999", Reading.length(x, 0));
        Checks.same("free", "60 1", Reading.length(x, 2));
        Checks.same("calendar", "100 0", Reading.length(x, 4));
        book(x, 0, 100, true);
        Checks.same("taken", "100 0", Reading.length(x, 0));
        Checks.same("free", "0 0", Reading.length(x, 2));
        for (int what : new int[] {-1, 6, Integer.MIN_VALUE, Integer.MAX_VALUE}) {
            Checks.dueThrown(x, "length of nothing", Checks.ARGUMENT, () -> x.length(what));
        }
    }

    private static void promise37LengthEdges() {
        Spanbooker x = new Spanbooker();
        x.set(0, -1000000000, 0);
        x.set(1, 1000000000, 999999999);
        x.open(0, 1);
        Checks.same("calendar", "2000000000 999999999", Reading.length(x, 4));
        Checks.same("free", "2000000000 999999999", Reading.length(x, 2));
        x.book(0, 1, false);
        Checks.same("taken", "2000000000 999999999", Reading.length(x, 0));
        x.stretch(0, 2, -1);
        Checks.same("taken", "2000000000 999999998", Reading.length(x, 0));
        Checks.same("free", "0 1", Reading.length(x, 2));
        Checks.due("freeAt", Checks.NONE, () -> x.freeAt(1));
        x.go(1, 2, -1, false);
        Checks.due("freeAt", 0, () -> x.freeAt(1));
    }
}
