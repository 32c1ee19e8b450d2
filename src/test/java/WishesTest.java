/** Promises 15 to 17 and 38 to 45: WISHES, which of them are CHOSEN, and their ROOMS. */
public final class WishesTest {
    private static final int[] NO_CELL = {-1, 4, Integer.MIN_VALUE, Integer.MAX_VALUE};

    private WishesTest() {
    }

    public static void main(String[] args) {
        promise15Wish();
        promise15WishEight();
        promise16Unwish();
        promise17Grant();
        promise17GrantRefused();
        promises38And39Read();
        promise40IsApart();
        promise41Chosen();
        promise41ChosenTies();
        promise42Most();
        promise43Crowd();
        promises44And45Rooms();
        promises44And45RoomsAgain();
        Checks.end("WishesTest");
    }

    /** An object with wishes begin, end, begin, end .. in seconds. */
    private static Spanbooker wishing(int... wishes) {
        Spanbooker x = new Spanbooker();
        for (int k = 0; k + 1 < wishes.length; k += 2) {
            wish(x, wishes[k], wishes[k + 1]);
        }
        return x;
    }

    private static int wish(Spanbooker x, int begin, int end) {
        x.set(2, begin, 0);
        x.set(3, end, 0);
        return x.wish(2, 3);
    }

    private static void dueWishes(Spanbooker x, String... texts) {
        Checks.due("wishes()", texts.length, x::wishes);
        for (int k = 0; k < Math.min(texts.length, x.wishes()); k++) {
            Checks.same("wish " + k, texts[k], Reading.wish(x, k));
        }
    }

    private static void promise15Wish() {
        Spanbooker x = new Spanbooker();
        x.set(1, 5, 1);
        x.set(2, -1000000000, 0);
        x.set(3, 1000000000, 999999999);
        Checks.dueAct(x, "wish", 0, () -> x.wish(0, 1));
        Checks.dueAct(x, "wish the same", 1, () -> x.wish(0, 1));
        Checks.dueAct(x, "wish far beyond the calendar", 2, () -> x.wish(2, 3));
        Checks.dueRefused(x, "wish backwards", () -> x.wish(1, 0));
        Checks.dueRefused(x, "wish of nothing", () -> x.wish(1, 1));
        x.copy(0, 1);
        Checks.dueRefused(x, "wish of nothing", () -> x.wish(0, 1));
        x.go(1, 2, 1, false);
        Checks.dueAct(x, "wish a billionth", 3, () -> x.wish(0, 1));
        dueWishes(x, "0 0 to 5 1", "0 0 to 5 1", "-1000000000 0 to 1000000000 999999999", "0 0 to 0 1");
        Checks.due("spans()", 0, x::spans);
        for (int cell : NO_CELL) {
            Checks.dueThrown(x, "wish from no cell", Checks.INDEX, () -> x.wish(cell, 1));
            Checks.dueThrown(x, "wish to no cell", Checks.INDEX, () -> x.wish(0, cell));
        }
    }

    private static void promise15WishEight() {
        Spanbooker x = new Spanbooker();
        x.set(1, 100, 0);
        for (int k = 0; k < 8; k++) {
            int number = k;
            x.set(0, k, 0);
            Checks.dueAct(x, "wish", number, () -> x.wish(0, 1));
        }
        Checks.dueRefused(x, "wish the ninth", () -> x.wish(0, 1));
        x.unwish(3);
        Checks.dueAct(x, "wish the eighth", 7, () -> x.wish(0, 1));
        Checks.dueRefused(x, "wish the ninth", () -> x.wish(0, 1));
    }

    private static void promise16Unwish() {
        Spanbooker x = wishing(1, 2, 3, 4, 5, 6, 7, 8);
        Checks.dueAct(x, "unwish", 3, () -> x.unwish(1));
        dueWishes(x, "1 0 to 2 0", "5 0 to 6 0", "7 0 to 8 0");
        Checks.dueAct(x, "unwish the last", 2, () -> x.unwish(2));
        Checks.dueAct(x, "unwish the first", 1, () -> x.unwish(0));
        dueWishes(x, "5 0 to 6 0");
        for (int k : new int[] {-1, 1, 8, Integer.MIN_VALUE, Integer.MAX_VALUE}) {
            Checks.dueThrown(x, "unwish none", Checks.INDEX, () -> x.unwish(k));
        }
        Checks.dueAct(x, "unwish the only one", 0, () -> x.unwish(0));
        Checks.dueThrown(x, "unwish none", Checks.INDEX, () -> x.unwish(0));
    }

    private static void promise17Grant() {
        Spanbooker x = wishing(10, 20, 30, 40, 20, 30, 0, 86400);
        Checks.dueAct(x, "grant", 0, () -> x.grant(1));
        dueWishes(x, "10 0 to 20 0", "20 0 to 30 0", "0 0 to 86400 0");
        Checks.dueAct(x, "grant", 1, () -> x.grant(1));
        Checks.dueAct(x, "grant", 2, () -> x.grant(0));
        dueWishes(x, "0 0 to 86400 0");
        Checks.same("span", "30 0 to 40 0", Reading.span(x, 0));
        Checks.same("span", "20 0 to 30 0", Reading.span(x, 1));
        Checks.same("span", "10 0 to 20 0", Reading.span(x, 2));
        Checks.dueRefused(x, "grant one that meets", () -> x.grant(0));
        x.empty();
        Checks.dueAct(x, "grant the whole calendar", 0, () -> x.grant(0));
        for (int k : new int[] {-1, 0, 1, Integer.MIN_VALUE, Integer.MAX_VALUE}) {
            Checks.dueThrown(x, "grant none", Checks.INDEX, () -> x.grant(k));
        }
    }

    private static void promise17GrantRefused() {
        Spanbooker x = new Spanbooker();
        x.set(0, 0, -1);
        x.set(1, 5, 0);
        x.set(2, 86400, 1);
        x.wish(0, 1);
        x.wish(1, 2);
        Checks.dueRefused(x, "grant ahead of FROM", () -> x.grant(0));
        Checks.dueRefused(x, "grant beyond UNTIL", () -> x.grant(1));
        Spanbooker y = wishing(10, 20, 50, 60);
        wish(y, 15, 25);
        y.book(2, 3, true);
        Checks.dueRefused(y, "grant one that meets one booked over", () -> y.grant(0));
        for (int k = 0; k < 8; k++) {
            y.book(2, 3, true);
        }
        Checks.dueAct(y, "grant the tenth", 9, () -> y.grant(1));
        wish(y, 70, 80);
        Checks.dueRefused(y, "grant the eleventh", () -> y.grant(2));
        Checks.dueThrown(y, "grant none", Checks.INDEX, () -> y.grant(3));
        Checks.dueThrown(y, "grant none", Checks.INDEX, () -> y.grant(-1));
    }

    private static void promises38And39Read() {
        Spanbooker x = new Spanbooker();
        Checks.due("wishes()", 0, x::wishes);
        x.set(0, -7, 1);
        x.set(1, 9, 2);
        x.set(2, 11, 3);
        x.wish(0, 1);
        Checks.due("wishes()", 1, x::wishes);
        x.wish(1, 2);
        Checks.due("wishes()", 2, x::wishes);
        int[] wishes = {-7, 1, 9, 2, 9, 2, 11, 3};
        for (int k = 0; k < 8; k++) {
            int number = k / 4;
            int what = k % 4;
            Checks.due("ofWish(" + number + ", " + what + ")", wishes[k], () -> x.ofWish(number, what));
        }
        for (int what : new int[] {-1, 4, Integer.MIN_VALUE, Integer.MAX_VALUE}) {
            Checks.dueThrown(x, "ofWish of nothing", Checks.ARGUMENT, () -> x.ofWish(1, what));
            Checks.dueThrown(x, "ofWish, all wrong", Checks.INDEX, () -> x.ofWish(2, what));
        }
        for (int k : new int[] {-1, 2, 8, Integer.MIN_VALUE, Integer.MAX_VALUE}) {
            Checks.dueThrown(x, "ofWish of none", Checks.INDEX, () -> x.ofWish(k, 0));
        }
    }

    private static void promise40IsApart() {
        Spanbooker x = wishing(10, 20, 20, 30, 15, 16, 16, 20);
        boolean[] apart = {
            true, true, true, true, true, false, true, false,
            true, false, true, false, true, false, true, false,
        };
        for (int k = 0; k < 16; k++) {
            int set = k;
            Checks.due("isApart(" + k + ")", apart[k], () -> x.isApart(set));
        }
        for (int set : new int[] {-1, 16, 17, 256, Integer.MIN_VALUE, Integer.MAX_VALUE}) {
            Checks.dueThrown(x, "isApart(" + set + ")", Checks.ARGUMENT, () -> x.isApart(set));
        }
        Spanbooker none = new Spanbooker();
        Checks.due("isApart of none", true, () -> none.isApart(0));
        Checks.dueThrown(none, "isApart", Checks.ARGUMENT, () -> none.isApart(1));
        Checks.dueThrown(none, "isApart", Checks.ARGUMENT, () -> none.isApart(-1));
        Spanbooker all = wishing(1, 2, 2, 3, 3, 4, 4, 5, 5, 6, 6, 7, 7, 8, 8, 9);
        Checks.due("isApart of all", true, () -> all.isApart(255));
        Checks.dueThrown(all, "isApart", Checks.ARGUMENT, () -> all.isApart(256));
    }

    private static void dueChosen(int set, int... wishes) {
        Spanbooker x = wishing(wishes);
        Checks.due("chosen()", set, x::chosen);
        Checks.due("most(0)", Integer.bitCount(set), () -> x.most(0));
        Checks.due("most(1)", Integer.bitCount(set), () -> x.most(1));
    }

    private static void promise41Chosen() {
        dueChosen(0);
        dueChosen(1, 5, 6);
        dueChosen(6, 0, 100, 10, 20, 30, 40);
        dueChosen(5, 0, 10, 9, 12, 11, 30);
        dueChosen(3, 20, 30, 10, 20);
        dueChosen(2 + 8 + 64, 0, 6, 1, 4, 3, 5, 5, 7, 3, 9, 6, 10, 8, 11);
        dueChosen(255, 1, 2, 2, 3, 3, 4, 4, 5, 5, 6, 6, 7, 7, 8, 8, 9);
        dueChosen(8, 0, 40, 0, 30, 0, 20, 0, 10);
    }

    private static void promise41ChosenTies() {
        dueChosen(1, 0, 10, 5, 10, 9, 10);
        dueChosen(2, 0, 11, 5, 10, 9, 10);
        dueChosen(1 + 4, 5, 10, 0, 10, 10, 20, 12, 20);
        Spanbooker x = wishing(0, 10, 0, 10);
        x.set(1, 10, -1);
        x.wish(0, 1);
        Checks.due("chosen() by a billionth", 4, x::chosen);
        x.unwish(0);
        Checks.due("chosen() by a billionth", 2, x::chosen);
    }

    private static void promise42Most() {
        Spanbooker x = wishing(0, 10, 5, 15, 10, 20, 15, 25, 0, 25);
        Checks.due("most(0)", 2, () -> x.most(0));
        Checks.due("most(1)", 2, () -> x.most(1));
        wish(x, 20, 30);
        Checks.due("most(0)", 3, () -> x.most(0));
        Checks.due("most(1)", 3, () -> x.most(1));
        for (int how : new int[] {-1, 2, Integer.MIN_VALUE, Integer.MAX_VALUE}) {
            Checks.dueThrown(x, "most by nothing", Checks.ARGUMENT, () -> x.most(how));
        }
    }

    private static void promise43Crowd() {
        Spanbooker x = new Spanbooker();
        Checks.due("crowd()", 0, x::crowd);
        wish(x, 0, 10);
        Checks.due("crowd()", 1, x::crowd);
        wish(x, 10, 20);
        Checks.due("crowd()", 1, x::crowd);
        wish(x, 5, 15);
        Checks.due("crowd()", 2, x::crowd);
        wish(x, 14, 16);
        Checks.due("crowd()", 3, x::crowd);
        wish(x, 30, 40);
        Checks.due("crowd()", 3, x::crowd);
        wish(x, -5, 100);
        Checks.due("crowd()", 4, x::crowd);
    }

    private static void dueRooms(Spanbooker x, int... rooms) {
        int most = 0;
        for (int k = 0; k < rooms.length; k++) {
            int number = k;
            Checks.due("room(" + k + ")", rooms[k], () -> x.room(number));
            most = Math.max(most, rooms[k] + 1);
        }
        Checks.due("rooms()", most, x::rooms);
        Checks.due("crowd()", most, x::crowd);
    }

    private static void promises44And45Rooms() {
        Spanbooker x = new Spanbooker();
        dueRooms(x);
        Checks.dueThrown(x, "room of none", Checks.INDEX, () -> x.room(0));
        dueRooms(wishing(0, 10), 0);
        dueRooms(wishing(0, 10, 10, 20), 0, 0);
        dueRooms(wishing(0, 10, 9, 20, 10, 15), 0, 1, 0);
        dueRooms(wishing(5, 10, 0, 6), 1, 0);
        dueRooms(wishing(0, 10, 0, 10, 0, 5), 0, 1, 2);
        dueRooms(wishing(0, 5, 0, 10, 0, 10, 5, 6), 0, 1, 2, 0);
        dueRooms(wishing(3, 4, 2, 4, 1, 4, 0, 4), 3, 2, 1, 0);
        dueRooms(wishing(0, 100, 10, 20, 15, 25, 20, 30, 25, 35), 0, 1, 2, 1, 2);
        dueRooms(wishing(0, 9, 0, 9, 0, 9, 0, 9, 0, 9, 0, 9, 0, 9, 0, 9), 0, 1, 2, 3, 4, 5, 6, 7);
        Spanbooker y = wishing(0, 10, 5, 6);
        for (int k : new int[] {-1, 2, 8, Integer.MIN_VALUE, Integer.MAX_VALUE}) {
            Checks.dueThrown(y, "room of none", Checks.INDEX, () -> y.room(k));
        }
    }

    /** Rooms are given anew, whatever went before. */
    private static void promises44And45RoomsAgain() {
        Spanbooker x = wishing(0, 10, 5, 15, 8, 20);
        dueRooms(x, 0, 1, 2);
        x.unwish(0);
        dueRooms(x, 0, 1);
        wish(x, 4, 6);
        dueRooms(x, 1, 0, 0);
        x.grant(0);
        dueRooms(x, 0, 0);
        x.unwish(0);
        x.unwish(0);
        dueRooms(x);
    }
}
