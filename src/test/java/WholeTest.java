/** Promises 46 to 49: what is counted, and the checksum. */
public final class WholeTest {
    private WholeTest() {
    }

    public static void main(String[] args) {
        promise46Acts();
        promise46Refusals();
        promise46NotCounted();
        promise46Wrong();
        promise47Knock();
        promise48IsSound();
        promise49New();
        promise49Digest();
        Checks.end("WholeTest");
    }

    private static void dueHouse(String what, Spanbooker x, int acts, int refusals, int knocks) {
        Checks.due(what + ": house(0)", acts, () -> x.house(0));
        Checks.due(what + ": house(1)", refusals, () -> x.house(1));
        Checks.due(what + ": house(2)", knocks, () -> x.house(2));
    }

    /** Every act once, also where nothing is other by it. */
    private static void promise46Acts() {
        Spanbooker x = new Spanbooker();
        int acts = 0;
        x.set(1, 0, 0);
        dueHouse("set", x, ++acts, 0, 0);
        x.go(1, 0, 0, true);
        dueHouse("go", x, ++acts, 0, 0);
        x.copy(1, 1);
        dueHouse("copy", x, ++acts, 0, 0);
        x.swap(1, 1);
        dueHouse("swap", x, ++acts, 0, 0);
        x.pick(true, 0);
        dueHouse("pick", x, ++acts, 0, 0);
        x.shift(2, 0);
        dueHouse("shift", x, ++acts, 0, 0);
        x.empty();
        dueHouse("empty", x, ++acts, 0, 0);
        x.fit(0, 0, 1, 0);
        dueHouse("fit", x, ++acts, 0, 0);
        x.set(1, 50, 0);
        dueHouse("set", x, ++acts, 0, 0);
        x.open(0, 1);
        dueHouse("open", x, ++acts, 0, 0);
        x.book(0, 1, false);
        dueHouse("book", x, ++acts, 0, 0);
        x.move(0, 0, 0);
        dueHouse("move", x, ++acts, 0, 0);
        x.stretch(0, 0, 0);
        dueHouse("stretch", x, ++acts, 0, 0);
        x.unbook(0);
        dueHouse("unbook", x, ++acts, 0, 0);
        x.wish(0, 1);
        dueHouse("wish", x, ++acts, 0, 0);
        x.grant(0);
        dueHouse("grant", x, ++acts, 0, 0);
        x.wish(0, 1);
        x.unwish(0);
        dueHouse("wish, unwish", x, acts + 2, 0, 0);
    }

    private static void promise46Refusals() {
        Spanbooker x = new Spanbooker();
        x.set(0, 1000000000, 999999999);
        int refusals = 0;
        x.set(1, 1000000000, 1000000000);
        dueHouse("set", x, 1, ++refusals, 0);
        x.go(0, 2, 1, false);
        dueHouse("go", x, 1, ++refusals, 0);
        x.shift(2, 1);
        dueHouse("shift", x, 1, ++refusals, 0);
        x.open(0, 1);
        dueHouse("open", x, 1, ++refusals, 0);
        x.book(0, 1, true);
        dueHouse("book", x, 1, ++refusals, 0);
        x.fit(0, 2, 1, 1);
        dueHouse("fit", x, 1, ++refusals, 0);
        x.wish(0, 0);
        dueHouse("wish", x, 1, ++refusals, 0);
        x.wish(1, 0);
        x.grant(0);
        dueHouse("grant", x, 2, ++refusals, 0);
        x.set(0, 86400, 0);
        x.book(1, 0, false);
        x.move(0, 2, 1);
        dueHouse("move", x, 4, ++refusals, 0);
        x.stretch(0, 2, 1);
        dueHouse("stretch", x, 4, ++refusals, 0);
    }

    private static void promise46NotCounted() {
        Spanbooker x = new Spanbooker();
        x.set(1, 10, 0);
        x.book(0, 1, false);
        x.wish(0, 1);
        String before = Reading.withoutHouse(x);
        Reading.digest(x);
        x.digest();
        x.order(0, 1);
        x.isBefore(0, 1);
        x.isAfter(0, 1);
        x.same(0, 1, 0);
        x.apart(0, 1, 0);
        x.meets(0, 0);
        x.isFree(0, 1);
        x.isApart(1);
        x.most(0);
        x.rooms();
        Checks.outcome(() -> x.set(4, 0, 0));
        Checks.outcome(() -> x.set(0, 0, 2000000001));
        Checks.outcome(() -> x.unbook(1));
        Checks.outcome(() -> x.most(2));
        dueHouse("what is asked, what is thrown", x, 3, 0, 0);
        Checks.same("all the rest", before, Reading.withoutHouse(x));
    }

    private static void promise46Wrong() {
        Spanbooker x = new Spanbooker();
        for (int what : new int[] {-1, 3, Integer.MIN_VALUE, Integer.MAX_VALUE}) {
            Checks.dueThrown(x, "house of nothing", Checks.ARGUMENT, () -> x.house(what));
        }
    }

    private static void promise47Knock() {
        Spanbooker x = new Spanbooker();
        String before = Reading.withoutHouse(x);
        for (int k = 1; k <= 5; k++) {
            Checks.due("knock()", k, x::knock);
            dueHouse("knock", x, 0, 0, k);
        }
        Checks.same("all the rest", before, Reading.withoutHouse(x));
        Spanbooker other = new Spanbooker();
        Checks.due("knock() of another object", 1, other::knock);
    }

    private static void promise48IsSound() {
        Spanbooker x = new Spanbooker();
        Checks.due("isSound()", true, x::isSound);
        x.set(1, 10, 0);
        x.set(2, 20, 0);
        for (int k = 0; k < 10; k++) {
            x.book(0, 1, true);
            x.wish(1, 2);
            x.wish(0, 2);
            Checks.due("isSound()", true, x::isSound);
        }
        x.open(1, 2);
        Checks.due("isSound()", true, x::isSound);
        x.book(1, 2, false);
        Checks.due("isSound()", true, x::isSound);
    }

    private static void promise49New() {
        Checks.due("digest() of a new object", digestOfNew(), () -> new Spanbooker().digest());
    }

    /** What the document tells for a new object, value by value. */
    private static long digestOfNew() {
        int[] all = {
            0, 0, -1, 0, 0, 0, -1, 0, 0, 0, -1, 0, 0, 0, -1, 0,
            0, 0, 86400, 0,
            0,
            0, 0, 1, 0, 0, 86400, 0,
            0, 0, 86400, 0, 86400, 0,
            0,
            0, 0, 0,
            0, 0, 0,
            1,
        };
        long d = 8009;
        for (int v : all) {
            d = d * 31 + v;
        }
        return d;
    }

    /** A new object for each: to read all that it tells, takes many of its 512 calls. */
    private static void promise49Digest() {
        for (int steps = 0; steps < 7; steps++) {
            Spanbooker x = after(steps);
            long want = Reading.digest(x);
            Checks.due("digest() after step " + steps, want, x::digest);
            Checks.due("digest() again after step " + steps, want, x::digest);
        }
    }

    private static Spanbooker after(int steps) {
        Spanbooker x = new Spanbooker();
        x.set(0, -3, 5);
        x.set(1, 10, 7);
        x.set(2, 12, 999999999);
        x.set(3, 40, 1);
        if (steps > 0) {
            x.book(1, 2, false);
        }
        if (steps > 1) {
            x.book(1, 3, true);
            x.wish(0, 2);
            x.wish(1, 3);
            x.wish(2, 3);
        }
        if (steps > 2) {
            x.knock();
            x.wish(0, 0);
        }
        if (steps > 3) {
            x.grant(2);
            x.unbook(1);
            x.grant(2);
        }
        if (steps > 4) {
            x.shift(2, -1234567891);
        }
        if (steps > 5) {
            x.empty();
            x.unwish(0);
        }
        return x;
    }
}
