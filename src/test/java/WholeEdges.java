import java.math.BigInteger;

/** What the description says of all methods; promises 46 to 49. */
final class WholeEdges {
    private static final int D = Sentences.DESCRIPTION;

    private WholeEdges() {
    }

    static void tell() {
        Sentences.holds(D, "An object is used for at most 512 calls after it has been made; what later calls answer is free.",
                WholeEdges::the512thCall);
        Sentences.holds(D, "Whole numbers; NONE is -1.", WholeEdges::noneIsMinus1);
        Sentences.holds(D, "REFUSED is -9: it is told where a method names it;", WholeEdges::minus9IsNotAlwaysRefused);
        Sentences.holds(D, "nothing changes then, but that it is counted.", WholeEdges::refusedChangesNothing);
        Sentences.holds(D, "A set of numbers is told as the sum of 2^k for each number k in it.", WholeEdges::sumsOf2ToK);
        Sentences.holds(46, "- what: 0 how many acts were done (those above, from set() to grant(), that threw nothing and were"
                + " not REFUSED,", WholeEdges::actsOfEachKind);
        Sentences.holds(46, "also if nothing is other by them),", WholeEdges::actsThatChangeNothing);
        Sentences.holds(46, "1 how often REFUSED was told,", WholeEdges::refusalsOfEachKind);
        Sentences.holds(46, "2 how often one knocked", WholeEdges::knocksAreNoActs);
        Sentences.holds(46, "Returns that.", WholeEdges::questionsAreNotCounted);
        Sentences.holds(47, "Knocks (this is no act).", WholeEdges::knocksAreNoActs);
        Sentences.holds(47, "Returns how often one knocked, with this.", WholeEdges::knocksFrom1On);
        Sentences.holds(48, "Returns whether all of this is so (it always is): FROM is earlier than UNTIL; each SPAN is in the"
                + " CALENDAR, and of two that MEET one was booked OVER; no FREE one MEETS a SPAN; what is TAKEN and what is FREE"
                + " are together the LENGTH of the CALENDAR; no two of the CHOSEN WISHES MEET, they are as many as by all sets;"
                + " rooms() is crowd().", WholeEdges::soundAtTheEdges);
        Sentences.holds(49, "Computes a checksum. A number d starts with 8009; then d becomes d * 31 + v,",
                WholeEdges::digestOfANewObject);
        Sentences.holds(49, "which wraps around as a 64-bit integer,", WholeEdges::digestWrapsAround);
        Sentences.holds(49, "for each v in this order: CELL by CELL second(), nano(), at(), freeAt(); calendar() of 0 to 3;"
                + " spans(), SPAN by SPAN ofSpan() of 0 to 4; clashes(), deepest(), frees(), FREE one by FREE one ofFree() of 0 to"
                + " 3; length() of 0 to 5; wishes(), WISH by WISH ofWish() of 0 to 3 and room(); chosen(), most() by 1, crowd();"
                + " house() of 0 to 2; 1 if isSound(), otherwise 0.", WholeEdges::digestOfEachPart);
        Sentences.holds(49, "Returns d.", WholeEdges::digestOfFullRows);
    }

    private static void dueHouse(Spanbooker x, String behind, int acts, int refusals, int knocks) {
        Checks.due("house(0) behind " + behind, acts, () -> x.house(0));
        Checks.due("house(1) behind " + behind, refusals, () -> x.house(1));
        Checks.due("house(2) behind " + behind, knocks, () -> x.house(2));
    }

    /** 510 acts and a question are well; the 512th call is the last one. */
    private static void the512thCall() {
        Spanbooker acts = new Spanbooker();
        for (int call = 0; call < 511; call++) {
            acts.go(0, 2, 1, false);
        }
        Checks.due("the 512th call", "0 511", () -> acts.text(0));
        Spanbooker house = new Spanbooker();
        for (int call = 0; call < 511; call++) {
            house.go(0, 2, 1, call % 2 == 1);
        }
        Checks.due("the 512th call", 511, () -> house.house(0));
        Spanbooker refused = new Spanbooker();
        for (int call = 0; call < 511; call++) {
            refused.wish(0, 1);
        }
        Checks.due("the 512th call", 511, () -> refused.house(1));
        Spanbooker knocking = new Spanbooker();
        for (int call = 0; call < 511; call++) {
            knocking.knock();
        }
        Checks.due("the 512th call", 512, knocking::knock);
        Spanbooker thrown = new Spanbooker();
        for (int call = 0; call < 511; call++) {
            Checks.outcome(() -> thrown.set(4, 0, 0));
        }
        Checks.due("the 512th call", new Spanbooker().digest(), thrown::digest);
    }

    private static void noneIsMinus1() {
        Spanbooker x = new Spanbooker();
        Checks.due("at(0) without SPANS", -1, () -> x.at(0));
        x.set(0, -1, 0);
        Checks.due("freeAt(0) ahead of FROM", -1, () -> x.freeAt(0));
    }

    /** What is asked may answer -9, too, and that is no REFUSED. */
    private static void minus9IsNotAlwaysRefused() {
        Spanbooker x = new Spanbooker();
        x.set(1, -9, 0);
        x.open(1, 0);
        x.book(1, 0, false);
        x.wish(1, 0);
        Checks.dueAsked(x, "second(1)", -9, () -> x.second(1));
        Checks.dueAsked(x, "calendar(0)", -9, () -> x.calendar(0));
        Checks.dueAsked(x, "ofSpan(0, 0)", -9, () -> x.ofSpan(0, 0));
        Checks.dueAsked(x, "ofWish(0, 0)", -9, () -> x.ofWish(0, 0));
        Checks.dueAsked(x, "apart(0, 1, 0)", -9, () -> x.apart(0, 1, 0));
        dueHouse(x, "questions that answer -9", 4, 0, 0);
        Checks.due("a REFUSED one", -9, () -> x.wish(0, 1));
        dueHouse(x, "a REFUSED one", 4, 1, 0);
    }

    /** Of each kind that can be REFUSED, in an object that has all there is. */
    private static void refusedChangesNothing() {
        Spanbooker x = Made.fullOfSpans();
        for (int k = 0; k < 8; k++) {
            Made.wish(x, k, 10 + k);
        }
        x.set(2, 1000000000, 999999999);
        x.knock();
        Checks.dueRefused(x, "set", () -> x.set(0, 1000000000, 1000000000));
        Checks.dueRefused(x, "go", () -> x.go(2, 2, 1, false));
        Checks.dueRefused(x, "shift", () -> x.shift(2, 1));
        Checks.dueRefused(x, "open", () -> x.open(1, 0));
        Checks.dueRefused(x, "book", () -> x.book(0, 1, true));
        Checks.dueRefused(x, "move", () -> x.move(9, 2, 1));
        Checks.dueRefused(x, "stretch", () -> x.stretch(0, 2, 1));
        Checks.dueRefused(x, "fit", () -> x.fit(0, 2, 1, 3));
        Checks.dueRefused(x, "wish", () -> x.wish(0, 1));
        Checks.dueRefused(x, "grant", () -> x.grant(0));
        Checks.dueAsked(x, "house(1)", 10, () -> x.house(1));
        Checks.dueAsked(x, "house(2)", 1, () -> x.house(2));
        Checks.same("cells", "0 100 1000000000999999999 17", Made.cells(x));
        Checks.same("wishes", "0..10 1..11 2..12 3..13 4..14 5..15 6..16 7..17", Made.wishes(x));
        Checks.same("spans", "0..10 10..20 20..30 30..40 40..50 50..60 60..70 70..80 80..90 90..100", Made.spans(x));
    }

    private static void sumsOf2ToK() {
        Spanbooker x = Made.wishing(0, 1, 1, 2, 2, 3, 3, 4, 4, 5, 5, 6, 6, 7, 7, 8);
        Checks.dueAsked(x, "chosen()", 255, x::chosen);
        for (int k = 7; k >= 0; k--) {
            int set = 1 << k;
            Checks.dueAsked(x, "isApart(" + set + ")", true, () -> x.isApart(set));
            Checks.dueThrown(x, "isApart(" + 2 * set + ")", Checks.ARGUMENT, () -> x.isApart(2 * set));
            x.unwish(k);
            Checks.dueAsked(x, "chosen()", set - 1, x::chosen);
        }
    }

    private static void actsOfEachKind() {
        Spanbooker x = new Spanbooker();
        Checks.dueAct(x, "set", 0, () -> x.set(1, 50, 0));
        Checks.dueAct(x, "go", 1, () -> x.go(1, 0, 50, false));
        Checks.dueAct(x, "copy", 1, () -> x.copy(1, 2));
        Checks.dueAct(x, "swap", 1, () -> x.swap(2, 3));
        Checks.dueAct(x, "pick", 1, () -> x.pick(true, 2));
        Checks.dueAct(x, "shift", 6, () -> x.shift(0, 1));
        Checks.dueAct(x, "open", 0, () -> x.open(0, 1));
        Checks.dueAct(x, "book", 0, () -> x.book(0, 1, true));
        Checks.dueAct(x, "stretch", 0, () -> x.stretch(0, 0, -10));
        Checks.dueAct(x, "move", 0, () -> x.move(0, 0, 10));
        Checks.dueAct(x, "fit", 0, () -> x.fit(0, 0, 10, 0));
        Checks.dueAct(x, "unbook", 0, () -> x.unbook(0));
        Checks.dueAct(x, "wish", 0, () -> x.wish(0, 1));
        Checks.dueAct(x, "grant", 0, () -> x.grant(0));
        Checks.dueAct(x, "empty", 1, x::empty);
        Checks.dueAct(x, "wish", 0, () -> x.wish(0, 1));
        Checks.dueAct(x, "unwish", 0, () -> x.unwish(0));
        dueHouse(x, "each kind of act", 17, 0, 0);
    }

    private static void actsThatChangeNothing() {
        Spanbooker x = new Spanbooker();
        Checks.dueIdle(x, "set", 0, () -> x.set(1, 0, 0));
        Checks.dueIdle(x, "go", 0, () -> x.go(1, 0, 0, true));
        Checks.dueIdle(x, "copy", 0, () -> x.copy(1, 2));
        Checks.dueIdle(x, "swap", 0, () -> x.swap(1, 2));
        Checks.dueIdle(x, "pick", 0, () -> x.pick(false, 3));
        Checks.dueIdle(x, "shift", 6, () -> x.shift(2, 0));
        Checks.dueIdle(x, "empty", 0, x::empty);
        Checks.dueIdle(x, "fit", 0, () -> x.fit(0, 0, 1, 3));
        x.set(1, 86400, 0);
        Checks.dueIdle(x, "open", 0, () -> x.open(0, 1));
        x.book(0, 1, false);
        Checks.dueIdle(x, "move", 0, () -> x.move(0, 0, 0));
        Checks.dueIdle(x, "stretch", 0, () -> x.stretch(0, 0, 0));
        dueHouse(x, "acts that change nothing", 13, 0, 0);
    }

    private static void refusalsOfEachKind() {
        Spanbooker x = Made.calendarOf100(0);
        Made.wish(x, 5, 15);
        x.set(3, -1000000000, 0);
        int acts = x.house(0);
        x.set(3, -1000000000, -1);
        dueHouse(x, "set", acts, 1, 0);
        x.go(3, 0, 2000000000, true);
        dueHouse(x, "go", acts, 2, 0);
        x.shift(1, -1);
        dueHouse(x, "shift", acts, 3, 0);
        x.open(0, 0);
        dueHouse(x, "open", acts, 4, 0);
        x.book(0, 1, false);
        dueHouse(x, "book", acts, 5, 0);
        x.move(0, 2, -1);
        dueHouse(x, "move", acts, 6, 0);
        x.stretch(0, 2, -10);
        dueHouse(x, "stretch", acts, 7, 0);
        x.fit(0, 2, 91, 0);
        dueHouse(x, "fit", acts, 8, 0);
        x.wish(1, 0);
        dueHouse(x, "wish", acts, 9, 0);
        x.grant(0);
        dueHouse(x, "grant", acts, 10, 0);
    }

    private static void knocksAreNoActs() {
        Spanbooker x = new Spanbooker();
        dueHouse(x, "nothing", 0, 0, 0);
        x.knock();
        dueHouse(x, "a knock", 0, 0, 1);
        x.knock();
        x.set(0, 0, 0);
        x.wish(0, 0);
        dueHouse(x, "two knocks, an act and a REFUSED one", 1, 1, 2);
        Spanbooker y = Made.calendarOf100(10);
        String before = Made.cells(y) + Made.calendar(y) + Made.spans(y);
        y.knock();
        Checks.same("the rest", before, Made.cells(y) + Made.calendar(y) + Made.spans(y));
        Checks.dueThrown(y, "house(-1)", Checks.ARGUMENT, () -> y.house(-1));
        Checks.dueThrown(y, "house(3)", Checks.ARGUMENT, () -> y.house(3));
    }

    private static void knocksFrom1On() {
        Spanbooker x = new Spanbooker();
        for (int k = 1; k < 20; k++) {
            Checks.due("knock()", k, x::knock);
        }
        Spanbooker other = new Spanbooker();
        Checks.due("knock() at another object", 1, other::knock);
        Checks.due("house(2)", 19, () -> x.house(2));
    }

    /** Each question, in an object that has all there is. */
    private static void questionsAreNotCounted() {
        Spanbooker x = Made.calendarOf100(10, 20);
        Made.wish(x, 10, 20);
        Checks.dueAsked(x, "second", 0, () -> x.second(1));
        Checks.dueAsked(x, "nano", 100, () -> x.nano(1));
        Checks.dueAsked(x, "text", "0 100", () -> x.text(1));
        Checks.dueAsked(x, "order", -1, () -> x.order(0, 1));
        Checks.dueAsked(x, "isBefore", true, () -> x.isBefore(0, 1));
        Checks.dueAsked(x, "isAfter", false, () -> x.isAfter(0, 1));
        Checks.dueAsked(x, "same", false, () -> x.same(0, 1, 0));
        Checks.dueAsked(x, "apart", 100, () -> x.apart(0, 1, 1));
        Checks.dueAsked(x, "calendar", 100, () -> x.calendar(3));
        Checks.dueAsked(x, "spans", 2, x::spans);
        Checks.dueAsked(x, "ofSpan", 10, () -> x.ofSpan(0, 1));
        Checks.dueAsked(x, "meets", false, () -> x.meets(0, 1));
        Checks.dueAsked(x, "clashes", 0, x::clashes);
        Checks.dueAsked(x, "at", 0, () -> x.at(2));
        Checks.dueAsked(x, "deepest", 1, x::deepest);
        Checks.dueAsked(x, "isFree", true, () -> x.isFree(0, 2));
        Checks.dueAsked(x, "frees", 2, x::frees);
        Checks.dueAsked(x, "ofFree", 30, () -> x.ofFree(1, 1));
        Checks.dueAsked(x, "freeAt", 0, () -> x.freeAt(0));
        Checks.dueAsked(x, "length", 20, () -> x.length(1));
        Checks.dueAsked(x, "wishes", 1, x::wishes);
        Checks.dueAsked(x, "ofWish", 10, () -> x.ofWish(0, 1));
        Checks.dueAsked(x, "isApart", true, () -> x.isApart(1));
        Checks.dueAsked(x, "chosen", 1, x::chosen);
        Checks.dueAsked(x, "most", 1, () -> x.most(0));
        Checks.dueAsked(x, "crowd", 1, x::crowd);
        Checks.dueAsked(x, "room", 0, () -> x.room(0));
        Checks.dueAsked(x, "rooms", 1, x::rooms);
        Checks.dueAsked(x, "house", 0, () -> x.house(1));
        Checks.dueAsked(x, "isSound", true, x::isSound);
        Checks.dueAsked(x, "digest", x.digest(), x::digest);
    }

    private static void dueSound(Spanbooker x) {
        Checks.dueAsked(x, "isSound() with " + Made.spans(x), true, x::isSound);
    }

    private static void soundAtTheEdges() {
        dueSound(new Spanbooker());
        dueSound(Made.calendar(0, 1));
        dueSound(Made.calendarOf100(0, 90));
        dueSound(Made.fullOfSpans());
        dueSound(Made.fullOfWishes());
        dueSound(Made.wishing(0, 1, 1, 2, 2, 3, 3, 4, 4, 5, 5, 6, 6, 7, 7, 8));
        Spanbooker x = Made.calendarOf100(10);
        Made.over(x, 10, 20);
        Made.over(x, 0, 100);
        dueSound(x);
        x.shift(2, -50);
        dueSound(x);
        x.unbook(2);
        dueSound(x);
        x.open(0, 1);
        dueSound(x);
        Spanbooker whole = Made.wholeLine();
        dueSound(whole);
        whole.book(0, 1, false);
        whole.wish(0, 1);
        dueSound(whole);
    }

    private static BigInteger mixed(int[] all) {
        BigInteger d = BigInteger.valueOf(8009);
        for (int v : all) {
            d = d.multiply(BigInteger.valueOf(31)).add(BigInteger.valueOf(v));
        }
        return d;
    }

    private static final int[] NEW = {
        0, 0, -1, 0, 0, 0, -1, 0, 0, 0, -1, 0, 0, 0, -1, 0, 0, 0, 86400, 0, 0, 0, 0, 1, 0, 0, 86400, 0,
        0, 0, 86400, 0, 86400, 0, 0, 0, 0, 0, 0, 0, 0, 1,
    };

    private static void digestOfANewObject() {
        Spanbooker x = new Spanbooker();
        Checks.due("digest()", mixed(NEW).longValue(), x::digest);
        Checks.due("digest() again", mixed(NEW).longValue(), x::digest);
    }

    private static void digestWrapsAround() {
        BigInteger whole = mixed(NEW);
        Checks.same("whether the number has more than 64 bits", true, whole.bitLength() > 64);
        BigInteger wrapped = whole.mod(BigInteger.ONE.shiftLeft(64));
        BigInteger signed = wrapped.testBit(63) ? wrapped.subtract(BigInteger.ONE.shiftLeft(64)) : wrapped;
        Checks.due("digest()", signed.longValueExact(), () -> new Spanbooker().digest());
    }

    /** As unlike numbers as can be, all told here by hand. */
    private static final int[] EACH_PART = {
        3, 5, 0, -1, 9, 0, -1, 1, -3, 5, -1, 0, 6, 3, 3, -1,
        -3, 5, 10, 7,
        4, 1, 0, 4, 9, 0, 2, 0, 4, 9, 1, 3, 0, 6, 2, 1, 5, 0, 8, 0, 1,
        4, 3, 2, -3, 5, 1, 0, 8, 0, 10, 7,
        7, 0, 6, 2, 13, 2,
        4, 0, 0, 5, 0, 0, 4, 0, 9, 0, 1, 5, 0, 6, 0, 0, 4, 5, 6, 0, 2,
        5, 2, 3,
        31, 3, 2,
        1,
    };

    private static void digestOfEachPart() {
        Spanbooker x = new Spanbooker();
        x.set(0, -3, 5);
        x.set(1, 10, 7);
        x.open(0, 1);
        span(x, 1, 0, 4, 9, false);
        span(x, 2, 0, 4, 9, true);
        span(x, 3, 0, 6, 2, true);
        span(x, 5, 0, 8, 0, true);
        wish(x, 0, 0, 5);
        wish(x, 4, 0, 9);
        wish(x, 5, 0, 6);
        wish(x, 4, 5, 6);
        x.wish(0, 0);
        x.book(1, 0, true);
        x.set(0, 1000000000, 2000000000);
        x.knock();
        x.knock();
        x.set(0, 3, 5);
        x.set(1, 9, 0);
        x.set(2, -3, 5);
        x.set(3, 6, 3);
        Checks.due("digest()", mixed(EACH_PART).longValue(), x::digest);
    }

    private static void span(Spanbooker x, int begin, int nano, int end, int endNano, boolean isOver) {
        x.set(2, begin, nano);
        x.set(3, end, endNano);
        x.book(2, 3, isOver);
    }

    private static void wish(Spanbooker x, int begin, int nano, int end) {
        x.set(2, begin, nano);
        x.set(3, end, 0);
        x.wish(2, 3);
    }

    /** With 10 SPANS and 8 WISHES, and with 11 FREE ones. */
    private static void digestOfFullRows() {
        Spanbooker full = Made.fullOfSpans();
        for (int k = 0; k < 8; k++) {
            Made.wish(full, k, 10 + k);
        }
        Checks.due("digest() of full rows", Reading.digest(full), full::digest);
        Spanbooker frees = Made.calendar(0, 100);
        for (int k = 0; k < 10; k++) {
            Made.book(frees, 9 * k + 5, 9 * k + 6);
        }
        Checks.due("digest() of 11 FREE ones", Reading.digest(frees), frees::digest);
        Spanbooker whole = Made.wholeLine();
        whole.wish(0, 1);
        Checks.due("digest() of the whole line", Reading.digest(whole), whole::digest);
        whole.book(0, 1, true);
        Checks.due("digest() of the whole line, TAKEN", Reading.digest(whole), whole::digest);
    }
}
