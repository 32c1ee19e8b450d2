/** The edges of WISHES: the description's third part, promises 15 to 17 and 38 to 45. */
final class WishEdges {
    private static final int D = Sentences.DESCRIPTION;
    private static final int LAST = 1000000000;

    private WishEdges() {
    }

    static void tell() {
        tellDescription();
        tellActs();
        tellQuestions();
    }

    private static void tellDescription() {
        Sentences.holds(D, "WISHES, at most 8 (none at first), numbered from 0 as they came, each with a begin and an end",
                WishEdges::wishesFrom0To8);
        Sentences.holds(D, "(they need not be in the CALENDAR;", WishEdges::wishAnywhere);
        Sentences.holds(D, "they may MEET).", WishEdges::wishAllMeeting);
        Sentences.holds(D, "CHOSEN: as long as some WISH is not CHOSEN and MEETS none that is,",
                WishEdges::chosenUntilNoneIsLeft);
        Sentences.holds(D, "of all such ones that with the earliest end is CHOSEN, too", WishEdges::chosenByEnd);
        Sentences.holds(D, "(of several that with the smallest number).", WishEdges::chosenBySmallestNumber);
        Sentences.holds(D, "ROOMS are numbers from 0 on.", WishEdges::roomsFrom0To7);
        Sentences.holds(D, "WISH by WISH, that with the earlier begin first", WishEdges::roomsByBegin);
        Sentences.holds(D, "(of several that with the smaller number),", WishEdges::roomsBySmallerNumber);
        Sentences.holds(D, "each gets the smallest ROOM in which no WISH that it MEETS is so far.",
                WishEdges::roomsAgainByABillionth);
    }

    private static void tellActs() {
        Sentences.holds(15, "A WISH comes, from the MOMENT of a CELL to that of another one.", WishEdges::wishFromTo);
        Sentences.holds(15, "Returns its number;", WishEdges::wishesFrom0To8);
        Sentences.holds(15, "REFUSED, if the first one is not earlier,", WishEdges::wishNotEarlier);
        Sentences.holds(15, "or if there are 8.", WishEdges::wishTheNinth);
        Sentences.holds(16, "A WISH goes;", WishEdges::unwishEach);
        Sentences.holds(16, "those behind it have numbers that are 1 less.", WishEdges::unwishNumbers);
        Sentences.holds(16, "Returns how many are left.", WishEdges::unwishAnswers);
        Sentences.holds(17, "A WISH becomes a SPAN that is not booked OVER,", WishEdges::grantIsNotOver);
        Sentences.holds(17, "and goes from the WISHES (as by unwish()).", WishEdges::grantNumbers);
        Sentences.holds(17, "Returns the number of the SPAN;", WishEdges::grantAnswers);
        Sentences.holds(17, "REFUSED, if it can not come as by book().", WishEdges::grantOutside);
        Sentences.holds(17, "REFUSED, if it can not come as by book().", WishEdges::grantTheEleventh);
        Sentences.holds(17, "REFUSED, if it can not come as by book().", WishEdges::grantMeeting);
        Sentences.holds(17, "REFUSED, if it can not come as by book().", WishEdges::grantMeetingOneOver);
    }

    private static void tellQuestions() {
        Sentences.holds(38, "Returns how many WISHES there are.", WishEdges::wishesFrom0To8);
        Sentences.holds(39, "- what: 0 the SECOND of its begin, 1 its NANO, 2 the SECOND of its end, 3 its NANO",
                WishEdges::ofWishEachPart);
        Sentences.holds(39, "Returns that.", WishEdges::ofWishAtTheEnds);
        Sentences.holds(40, "- set: a set of numbers of WISHES", WishEdges::isApartOfEachSet);
        Sentences.holds(40, "Returns whether no two of them MEET.", WishEdges::isApartByABillionth);
        Sentences.holds(41, "Returns the set of the CHOSEN ones.", WishEdges::chosenFromNoneToAll);
        Sentences.holds(42, "- how: 0 by the CHOSEN ones, 1 by all sets of WISHES (both are the same)",
                WishEdges::mostBothWays);
        Sentences.holds(42, "Returns of how many WISHES at most no two MEET.", WishEdges::mostFrom0To8);
        Sentences.holds(43, "Returns how many WISHES at most have one MOMENT in common.", WishEdges::crowdFrom0To8);
        Sentences.holds(44, "Returns its ROOM.", WishEdges::roomOfEach);
        Sentences.holds(45, "Returns how many ROOMS the WISHES have (as many as crowd() tells).",
                WishEdges::roomsAreCrowd);
    }

    private static void dueWishes(Spanbooker x, String want) {
        Checks.same("wishes", want, Made.wishes(x));
    }

    private static void dueWish(Spanbooker x, int begin, int end, int want) {
        Made.put(x, begin, end);
        String what = "wish " + begin + ".." + end;
        if (want == Checks.REFUSED) {
            Checks.dueRefused(x, what, () -> x.wish(2, 3));
        } else {
            Checks.dueAct(x, what, want, () -> x.wish(2, 3));
        }
    }

    private static void dueChosen(int want, int... wishes) {
        Spanbooker x = Made.wishing(wishes);
        Checks.dueAsked(x, "chosen() of " + Made.wishes(x), want, x::chosen);
    }

    private static void dueRooms(String want, int... wishes) {
        Spanbooker x = Made.wishing(wishes);
        Checks.same("rooms of " + Made.wishes(x), want, Made.rooms(x));
    }

    private static void wishesFrom0To8() {
        Spanbooker x = new Spanbooker();
        for (int k = 0; k < 8; k++) {
            int count = k;
            Checks.dueAsked(x, "wishes()", count, x::wishes);
            Checks.dueThrown(x, "ofWish(" + k + ", 0)", Checks.INDEX, () -> x.ofWish(count, 0));
            dueWish(x, 90 - k, 100 + k, count);
        }
        Checks.dueAsked(x, "wishes()", 8, x::wishes);
        Checks.dueThrown(x, "ofWish(8, 0)", Checks.INDEX, () -> x.ofWish(8, 0));
        dueWishes(x, "90..100 89..101 88..102 87..103 86..104 85..105 84..106 83..107");
    }

    private static void wishAnywhere() {
        Spanbooker x = Made.wholeLine();
        x.swap(1, 2);
        x.open(3, 2);
        x.swap(1, 2);
        Checks.dueAct(x, "wish of the whole line", 0, () -> x.wish(0, 1));
        dueWish(x, -10, -5, 1);
        dueWish(x, -1, 1, 2);
        dueWishes(x, "-1000000000000000000..1000000000999999999 -10..-5 -1..1");
        Spanbooker y = Made.calendar(10, 20);
        dueWish(y, 9, 21, 0);
        dueWish(y, 20, 21, 1);
        dueWish(y, 9, 10, 2);
    }

    private static void wishAllMeeting() {
        Spanbooker x = new Spanbooker();
        for (int k = 0; k < 8; k++) {
            dueWish(x, 10, 20, k);
        }
        Checks.dueAsked(x, "crowd()", 8, x::crowd);
    }

    private static void chosenUntilNoneIsLeft() {
        dueChosen(0);
        dueChosen(1, 10, 20);
        dueChosen(3, 10, 20, 20, 30);
        dueChosen(1, 10, 20, 19, 30);
        dueChosen(3, 20, 30, 10, 20);
        dueChosen(5, 10, 20, 19, 30, 20, 40);
        dueChosen(255, 0, 1, 1, 2, 2, 3, 3, 4, 4, 5, 5, 6, 6, 7, 7, 8);
        dueChosen(255, 7, 8, 6, 7, 5, 6, 4, 5, 3, 4, 2, 3, 1, 2, 0, 1);
    }

    private static void chosenByEnd() {
        dueChosen(2, 10, 21, 10, 20);
        dueChosen(1, 10, 20, 10, 21);
        dueChosen(2, 0, 21, 19, 20);
        dueChosen(6, 0, 100, 10, 20, 30, 40);
        dueChosen(4, 0, 30, 5, 20, 9, 10);
        dueChosen(128, 0, 20, 0, 19, 0, 18, 0, 17, 0, 16, 0, 15, 0, 14, 0, 13);
    }

    private static void chosenBySmallestNumber() {
        dueChosen(1, 10, 20, 10, 20);
        dueChosen(1, 10, 20, 15, 20);
        dueChosen(1, 15, 20, 10, 20);
        dueChosen(2, 10, 21, 10, 20, 15, 20);
        dueChosen(9, 10, 20, 12, 20, 15, 30, 20, 30, 25, 30);
        dueChosen(1, 0, 9, 0, 9, 0, 9, 0, 9, 0, 9, 0, 9, 0, 9, 0, 9);
    }

    private static void roomsFrom0To7() {
        dueRooms("0", 10, 20);
        dueRooms("0 1 2 3 4 5 6 7", 0, 9, 0, 9, 0, 9, 0, 9, 0, 9, 0, 9, 0, 9, 0, 9);
        dueRooms("7 6 5 4 3 2 1 0", 7, 9, 6, 9, 5, 9, 4, 9, 3, 9, 2, 9, 1, 9, 0, 9);
    }

    private static void roomsByBegin() {
        dueRooms("0 1", 10, 20, 11, 20);
        dueRooms("1 0", 11, 20, 10, 20);
        dueRooms("1 0", 11, 12, 10, 20);
        dueRooms("2 1 0", 12, 20, 11, 20, 10, 20);
        dueRooms("0 0 1", 10, 20, -10, -5, 15, 30);
    }

    private static void roomsBySmallerNumber() {
        dueRooms("0 1", 10, 20, 10, 20);
        dueRooms("0 1", 10, 30, 10, 20);
        dueRooms("0 1", 10, 20, 10, 30);
        dueRooms("1 2 0", 10, 20, 10, 20, 9, 20);
    }

    private static void roomsAgainByABillionth() {
        dueRooms("0 0", 10, 20, 20, 30);
        dueRooms("0 1", 10, 20, 19, 30);
        dueRooms("0 1 0 1", 10, 20, 15, 30, 20, 40, 30, 35);
        dueRooms("0 1 2 1", 0, 100, 10, 20, 19, 30, 20, 40);
        dueRooms("0 1 2 0", 0, 30, 10, 40, 20, 50, 30, 60);
        dueRooms("0 0 0 0 0 0 0 0", 0, 1, 1, 2, 2, 3, 3, 4, 4, 5, 5, 6, 6, 7, 7, 8);
    }

    private static void wishFromTo() {
        Spanbooker x = Made.cells(5, 9, -3, 0);
        Checks.dueAct(x, "wish(2, 1)", 0, () -> x.wish(2, 1));
        Checks.dueAct(x, "wish(3, 0)", 1, () -> x.wish(3, 0));
        dueWishes(x, "-3..9 0..5");
        x.go(2, 2, 1, false);
        x.go(1, 2, 1, false);
        dueWishes(x, "-3..9 0..5");
        Checks.same("cells", "5 10 -2 0", Made.cells(x));
        Checks.dueAsked(x, "spans()", 0, x::spans);
    }

    private static void wishNotEarlier() {
        Spanbooker x = Made.wishing(10, 20);
        dueWish(x, 20, 20, Checks.REFUSED);
        dueWish(x, 21, 20, Checks.REFUSED);
        Checks.dueRefused(x, "wish of one cell", () -> x.wish(0, 0));
        dueWish(x, 20, 21, 1);
        Spanbooker whole = Made.wholeLine();
        Checks.dueRefused(whole, "wish of the whole line backwards", () -> whole.wish(1, 0));
    }

    private static void wishTheNinth() {
        Spanbooker x = Made.fullOfWishes();
        dueWish(x, 50, 60, Checks.REFUSED);
        dueWish(x, 60, 50, Checks.REFUSED);
        x.unwish(3);
        dueWish(x, 50, 60, 7);
        dueWish(x, 70, 80, Checks.REFUSED);
        dueWishes(x, "0..10 1..11 2..12 4..14 5..15 6..16 7..17 50..60");
    }

    private static void unwishEach() {
        for (int k = 0; k < 8; k++) {
            int gone = k;
            Spanbooker x = Made.wishing(0, 1, 1, 2, 2, 3, 3, 4, 4, 5, 5, 6, 6, 7, 7, 8);
            Checks.dueAct(x, "unwish(" + k + ")", 7, () -> x.unwish(gone));
            String all = "0..1 1..2 2..3 3..4 4..5 5..6 6..7 7..8";
            dueWishes(x, all.replace(k + ".." + (k + 1), "").replace("  ", " ").trim());
            Checks.due("ofWish(7, 0)", Checks.INDEX, () -> x.ofWish(7, 0));
        }
    }

    private static void unwishNumbers() {
        Spanbooker x = Made.wishing(0, 10, 5, 15, 10, 20, 30, 40);
        x.unwish(1);
        dueWishes(x, "0..10 10..20 30..40");
        Checks.dueAsked(x, "chosen()", 7, x::chosen);
        x.unwish(2);
        dueWishes(x, "0..10 10..20");
        x.unwish(0);
        dueWishes(x, "10..20");
        dueWish(x, 1, 2, 1);
        dueWishes(x, "10..20 1..2");
    }

    private static void unwishAnswers() {
        Spanbooker x = Made.fullOfWishes();
        for (int left = 7; left >= 0; left--) {
            int want = left;
            Checks.dueAct(x, "unwish(0)", want, () -> x.unwish(0));
        }
        Checks.dueThrown(x, "unwish(0) of none", Checks.INDEX, () -> x.unwish(0));
    }

    private static void grantIsNotOver() {
        Spanbooker x = Made.calendar(0, 100);
        Made.over(x, 10, 20);
        x.empty();
        dueWish(x, 10, 20, 0);
        Checks.dueAct(x, "grant", 0, () -> x.grant(0));
        Checks.same("spans", "10..20", Made.spans(x));
        Checks.dueAsked(x, "ofSpan(0, 4)", 0, () -> x.ofSpan(0, 4));
        dueWishes(x, "");
        Checks.same("cells", "0 100 10 20", Made.cells(x));
    }

    private static void grantNumbers() {
        Spanbooker x = Made.wishing(0, 10, 10, 20, 20, 30, 30, 40);
        Checks.dueAct(x, "grant(1)", 0, () -> x.grant(1));
        dueWishes(x, "0..10 20..30 30..40");
        Checks.dueAct(x, "grant the last one", 1, () -> x.grant(2));
        dueWishes(x, "0..10 20..30");
        Checks.dueAct(x, "grant the first one", 2, () -> x.grant(0));
        dueWishes(x, "20..30");
        Checks.same("spans", "10..20 30..40 0..10", Made.spans(x));
    }

    private static void grantAnswers() {
        Spanbooker x = new Spanbooker();
        for (int k = 0; k < 10; k++) {
            int number = k;
            dueWish(x, k, k + 1, 0);
            Checks.dueAct(x, "grant", number, () -> x.grant(0));
        }
        Checks.same("spans", "0..1 1..2 2..3 3..4 4..5 5..6 6..7 7..8 8..9 9..10", Made.spans(x));
    }

    private static void grantOutside() {
        Spanbooker x = Made.calendar(10, 20);
        int[] wishes = {9, 20, 10, 21, 9, 21, 5, 10, 20, 25, 30, 40, 10, 20};
        for (int k = 0; k < 7; k++) {
            dueWish(x, wishes[2 * k], wishes[2 * k + 1], k);
        }
        for (int k = 0; k < 6; k++) {
            int number = k;
            Checks.dueRefused(x, "grant(" + k + ")", () -> x.grant(number));
        }
        Checks.dueAct(x, "grant of the whole calendar", 0, () -> x.grant(6));
        dueWishes(x, "9..20 10..21 9..21 5..10 20..25 30..40");
        Spanbooker whole = Made.wholeLine();
        whole.wish(0, 1);
        Checks.dueAct(whole, "grant of the whole line", 0, () -> whole.grant(0));
    }

    private static void grantTheEleventh() {
        Spanbooker x = Made.calendarOf100(0, 10, 20, 30, 40, 50, 60, 70, 80);
        dueWish(x, 90, 91, 0);
        dueWish(x, 91, 92, 1);
        Checks.dueAct(x, "grant the tenth", 9, () -> x.grant(0));
        Checks.dueRefused(x, "grant the eleventh", () -> x.grant(0));
        dueWishes(x, "91..92");
        x.unbook(0);
        Checks.dueAct(x, "grant the tenth", 9, () -> x.grant(0));
    }

    private static void grantMeeting() {
        Spanbooker x = Made.calendarOf100(40);
        int[] wishes = {30, 41, 49, 60, 40, 50, 44, 45, 39, 51, 30, 40, 50, 60};
        for (int k = 0; k < 7; k++) {
            dueWish(x, wishes[2 * k], wishes[2 * k + 1], k);
        }
        for (int k = 0; k < 5; k++) {
            int number = k;
            Checks.dueRefused(x, "grant(" + k + ")", () -> x.grant(number));
        }
        Checks.dueAct(x, "grant of one behind", 1, () -> x.grant(6));
        Checks.dueAct(x, "grant of one ahead", 2, () -> x.grant(5));
        Checks.same("spans", "40..50 50..60 30..40", Made.spans(x));
        dueWishes(x, "30..41 49..60 40..50 44..45 39..51");
    }

    private static void grantMeetingOneOver() {
        Spanbooker x = Made.calendar(0, 100);
        Made.over(x, 40, 50);
        dueWish(x, 49, 60, 0);
        dueWish(x, 50, 60, 1);
        Checks.dueRefused(x, "grant of one that MEETS by a billionth", () -> x.grant(0));
        Checks.dueAct(x, "grant of one behind", 1, () -> x.grant(1));
        Checks.same("spans", "40..50+ 50..60", Made.spans(x));
        dueWishes(x, "49..60");
    }

    private static void ofWishEachPart() {
        Spanbooker x = new Spanbooker();
        x.set(0, -7, 1);
        x.set(1, 9, 2);
        x.set(2, -3, 5);
        x.set(3, 4, 6);
        x.wish(0, 1);
        x.wish(2, 3);
        int[] want = {-7, 1, 9, 2, -3, 5, 4, 6};
        for (int n = 0; n < 8; n++) {
            int k = n / 4;
            int what = n % 4;
            Checks.dueAsked(x, "ofWish(" + k + ", " + what + ")", want[n], () -> x.ofWish(k, what));
        }
        Checks.dueThrown(x, "ofWish(0, -1)", Checks.ARGUMENT, () -> x.ofWish(0, -1));
        Checks.dueThrown(x, "ofWish(1, 4)", Checks.ARGUMENT, () -> x.ofWish(1, 4));
    }

    private static void ofWishAtTheEnds() {
        Spanbooker x = Made.wholeLine();
        x.wish(0, 1);
        int[] want = {-LAST, 0, LAST, 999999999};
        for (int k = 0; k < 4; k++) {
            int what = k;
            Checks.dueAsked(x, "ofWish(0, " + k + ")", want[k], () -> x.ofWish(0, what));
        }
    }

    private static void dueIsApart(Spanbooker x, int set, boolean want) {
        Checks.dueAsked(x, "isApart(" + set + ")", want, () -> x.isApart(set));
    }

    private static void isApartOfEachSet() {
        Spanbooker none = new Spanbooker();
        dueIsApart(none, 0, true);
        Checks.dueThrown(none, "isApart(1) of none", Checks.ARGUMENT, () -> none.isApart(1));
        Checks.dueThrown(none, "isApart(-1) of none", Checks.ARGUMENT, () -> none.isApart(-1));
        Spanbooker x = Made.wishing(0, 10, 5, 15, 10, 20);
        boolean[] want = {true, true, true, false, true, true, false, false};
        for (int set = 0; set < 8; set++) {
            dueIsApart(x, set, want[set]);
        }
        Checks.dueThrown(x, "isApart(8) of 3", Checks.ARGUMENT, () -> x.isApart(8));
        Checks.dueThrown(x, "isApart(9) of 3", Checks.ARGUMENT, () -> x.isApart(9));
        Spanbooker full = Made.wishing(0, 1, 1, 2, 2, 3, 3, 4, 4, 5, 5, 6, 6, 7, 7, 8);
        dueIsApart(full, 255, true);
        dueIsApart(full, 128, true);
        Checks.dueThrown(full, "isApart(256) of 8", Checks.ARGUMENT, () -> full.isApart(256));
        Spanbooker meeting = Made.fullOfWishes();
        dueIsApart(meeting, 255, false);
        dueIsApart(meeting, 129, false);
        dueIsApart(meeting, 128, true);
    }

    private static void isApartByABillionth() {
        dueIsApart(Made.wishing(10, 20, 20, 30), 3, true);
        dueIsApart(Made.wishing(10, 20, 19, 30), 3, false);
        dueIsApart(Made.wishing(20, 30, 10, 20), 3, true);
        dueIsApart(Made.wishing(19, 30, 10, 20), 3, false);
        dueIsApart(Made.wishing(10, 20, 10, 20), 3, false);
        dueIsApart(Made.wishing(10, 20, 14, 15), 3, false);
        dueIsApart(Made.wishing(10, 20, 30, 40, 19, 31), 3, true);
        dueIsApart(Made.wishing(10, 20, 30, 40, 20, 31), 5, true);
        dueIsApart(Made.wishing(10, 20, 30, 40, 20, 31), 6, false);
    }

    private static void chosenFromNoneToAll() {
        dueChosen(0);
        dueChosen(7, 20, 30, 10, 20, 0, 10);
        dueChosen(128 + 1, 0, 10, 9, 20, 9, 20, 9, 20, 9, 20, 9, 20, 9, 20, 10, 19);
        dueChosen(255, 0, 1, 2, 3, 4, 5, 6, 7, 8, 9, 10, 11, 12, 13, 14, 15);
    }

    private static void dueMost(Spanbooker x, int want) {
        Checks.dueAsked(x, "most(0) of " + Made.wishes(x), want, () -> x.most(0));
        Checks.dueAsked(x, "most(1) of " + Made.wishes(x), want, () -> x.most(1));
    }

    private static void mostBothWays() {
        Spanbooker x = Made.wishing(0, 10, 5, 15, 10, 20, 15, 25, 0, 25);
        dueMost(x, 2);
        Checks.dueThrown(x, "most(-1)", Checks.ARGUMENT, () -> x.most(-1));
        Checks.dueThrown(x, "most(2)", Checks.ARGUMENT, () -> x.most(2));
    }

    private static void mostFrom0To8() {
        dueMost(new Spanbooker(), 0);
        dueMost(Made.wishing(0, 1), 1);
        dueMost(Made.fullOfWishes(), 1);
        dueMost(Made.wishing(0, 10, 10, 20), 2);
        dueMost(Made.wishing(0, 11, 10, 20), 1);
        dueMost(Made.wishing(0, 100, 10, 20, 20, 30, 30, 40), 3);
        dueMost(Made.wishing(0, 1, 1, 2, 2, 3, 3, 4, 4, 5, 5, 6, 6, 7, 7, 8), 8);
    }

    private static void crowdFrom0To8() {
        Spanbooker x = new Spanbooker();
        for (int k = 0; k < 8; k++) {
            Checks.dueAsked(x, "crowd()", k, x::crowd);
            Made.wish(x, 20 - k, 21 + k);
        }
        Checks.dueAsked(x, "crowd()", 8, x::crowd);
        Spanbooker touching = Made.wishing(0, 1, 1, 2, 2, 3, 3, 4, 4, 5, 5, 6, 6, 7, 7, 8);
        Checks.dueAsked(touching, "crowd() of 8 that touch", 1, touching::crowd);
        Spanbooker chain = Made.wishing(0, 10, 9, 20, 19, 30);
        Checks.dueAsked(chain, "crowd() of a chain", 2, chain::crowd);
        Made.wish(chain, 9, 10);
        Checks.dueAsked(chain, "crowd() where two MEET", 3, chain::crowd);
    }

    private static void roomOfEach() {
        Spanbooker x = Made.fullOfWishes();
        for (int n = 0; n < 8; n++) {
            int k = n;
            Checks.dueAsked(x, "room(" + n + ")", k, () -> x.room(k));
        }
        x.unwish(0);
        Checks.dueAsked(x, "room(6)", 6, () -> x.room(6));
        Checks.dueThrown(x, "room(7)", Checks.INDEX, () -> x.room(7));
        Spanbooker none = new Spanbooker();
        Checks.dueThrown(none, "room(0) of none", Checks.INDEX, () -> none.room(0));
    }

    private static void dueCrowd(int want, Spanbooker x) {
        Checks.dueAsked(x, "rooms() of " + Made.wishes(x), want, x::rooms);
        Checks.dueAsked(x, "crowd() of " + Made.wishes(x), want, x::crowd);
    }

    private static void roomsAreCrowd() {
        dueCrowd(0, new Spanbooker());
        dueCrowd(1, Made.wishing(10, 20));
        dueCrowd(1, Made.wishing(10, 20, 20, 30, 0, 10));
        dueCrowd(2, Made.wishing(10, 20, 19, 30, 29, 40));
        dueCrowd(3, Made.wishing(0, 100, 10, 20, 15, 25, 20, 30, 25, 35));
        dueCrowd(8, Made.fullOfWishes());
        Spanbooker less = Made.fullOfWishes();
        less.unwish(0);
        dueCrowd(7, less);
    }
}
