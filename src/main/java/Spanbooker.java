/** Moments in four cells, a calendar with spans and what is free between them, wishes and their rooms. */
public final class Spanbooker {
    private static final int NONE = -1;
    private static final int REFUSED = -9;

    private static final int CELLS = 4;
    private static final int MOST_SPANS = 10;
    private static final int MOST_WISHES = 8;
    /** The longest row is that of the FREE ones: there can be one more than there are SPANS. */
    private static final int ROW_LENGTH = MOST_SPANS + 1;

    private static final long A_SECOND = 1000000000L;
    private static final long A_THOUSANDTH = 1000000L;
    private static final long A_BILLIONTH = 1L;
    private static final long A_DAY = 86400L * A_SECOND;

    private static final int LAST_SECOND = 1000000000;
    private static final int MOST_UNITS = 2000000000;
    private static final long FIRST_LET = -LAST_SECOND * A_SECOND;
    private static final long LAST_LET = LAST_SECOND * A_SECOND + (A_SECOND - 1L);

    /** Each MOMENT is held as its COUNT: all that are LET, and their sums with any UNITS, are far inside a long. */
    private final long[] cells;
    private long from;
    private long until;
    private final Row spanRow;
    private final Row wishRow;
    /** Only what findFrees() left here last: whoever reads it calls that first. */
    private final Row freeRow;
    /** Only what findRooms() left here last: whoever reads it calls that first. */
    private final int[] roomOf;
    private int acts;
    private int refusals;
    private int knocks;

    public Spanbooker() {
        cells = new long[CELLS];
        from = 0L;
        until = A_DAY;
        spanRow = new Row();
        wishRow = new Row();
        freeRow = new Row();
        roomOf = new int[ROW_LENGTH];
    }

    // ---- acts: cells

    public int set(int cell, int second, int nanos) throws IndexOutOfBoundsException, IllegalArgumentException {
        needCell(cell);
        needThat(isWithin(second, -LAST_SECOND, LAST_SECOND) && isWithin(nanos, -MOST_UNITS, MOST_UNITS));
        long moment = second * A_SECOND + nanos;
        if (!isLet(moment)) {
            return refuse();
        }
        cells[cell] = moment;
        return done(secondOf(moment) - second);
    }

    public int go(int cell, int unit, int n, boolean isBack)
            throws IndexOutOfBoundsException, IllegalArgumentException {
        needCell(cell);
        needUnits(unit, n, -MOST_UNITS);
        long on = lengthOf(unit, n);
        long moment = isBack ? cells[cell] - on : cells[cell] + on;
        if (!isLet(moment)) {
            return refuse();
        }
        int side = sideOf(moment, cells[cell]);
        cells[cell] = moment;
        return done(side);
    }

    public int copy(int cell, int into) throws IndexOutOfBoundsException {
        needCell(cell);
        needCell(into);
        return done(bring(cells[cell], into));
    }

    public int swap(int cell, int other) throws IndexOutOfBoundsException {
        needCell(cell);
        needCell(other);
        long moment = cells[other];
        int isOther = bring(cells[cell], other);
        cells[cell] = moment;
        return done(isOther);
    }

    public int pick(boolean isLatest, int into) throws IndexOutOfBoundsException {
        needCell(into);
        int found = 0;
        for (int k = 1; k < CELLS; k++) {
            boolean isBetter = isLatest ? cells[k] > cells[found] : cells[k] < cells[found];
            if (isBetter) {
                found = k;
            }
        }
        cells[into] = cells[found];
        return done(found);
    }

    public int shift(int unit, int n) throws IllegalArgumentException {
        needUnits(unit, n, -MOST_UNITS);
        long on = lengthOf(unit, n);
        if (!isAllLetAfter(on)) {
            return refuse();
        }
        for (int k = 0; k < CELLS; k++) {
            cells[k] += on;
        }
        from += on;
        until += on;
        spanRow.goOn(on);
        wishRow.goOn(on);
        return done(CELLS + 2 + 2 * spanRow.count() + 2 * wishRow.count());
    }

    // ---- acts: the calendar

    public int open(int one, int other) throws IndexOutOfBoundsException {
        needCell(one);
        needCell(other);
        if (cells[one] >= cells[other]) {
            return refuse();
        }
        from = cells[one];
        until = cells[other];
        return done(spanRow.clear());
    }

    public int book(int one, int other, boolean isOver) throws IndexOutOfBoundsException {
        needCell(one);
        needCell(other);
        int number = addSpan(cells[one], cells[other], isOver);
        return number == NONE ? refuse() : done(number);
    }

    public int unbook(int k) throws IndexOutOfBoundsException {
        needNumberIn(spanRow, k);
        return done(spanRow.remove(k));
    }

    public int empty() {
        return done(spanRow.clear());
    }

    public int move(int k, int unit, int n) throws IndexOutOfBoundsException, IllegalArgumentException {
        needNumberIn(spanRow, k);
        needUnits(unit, n, -MOST_UNITS);
        long on = lengthOf(unit, n);
        if (!changeSpan(k, spanRow.begin(k) + on, spanRow.end(k) + on)) {
            return refuse();
        }
        return done(spanRow.beginsBefore(spanRow.begin(k)));
    }

    public int stretch(int k, int unit, int n) throws IndexOutOfBoundsException, IllegalArgumentException {
        needNumberIn(spanRow, k);
        needUnits(unit, n, -MOST_UNITS);
        if (!changeSpan(k, spanRow.begin(k), spanRow.end(k) + lengthOf(unit, n))) {
            return refuse();
        }
        return done(spanRow.endsBefore(spanRow.end(k)));
    }

    public int fit(int cell, int unit, int n, int into) throws IndexOutOfBoundsException, IllegalArgumentException {
        needCell(cell);
        needCell(into);
        needUnits(unit, n, 1);
        long length = lengthOf(unit, n);
        long moment = firstWithoutSpan(Math.max(cells[cell], from), length);
        if (moment + length > until) {
            return refuse();
        }
        return done(bring(moment, into));
    }

    // ---- acts: wishes

    public int wish(int one, int other) throws IndexOutOfBoundsException {
        needCell(one);
        needCell(other);
        if (cells[one] >= cells[other] || wishRow.count() >= MOST_WISHES) {
            return refuse();
        }
        return done(wishRow.add(cells[one], cells[other], false));
    }

    public int unwish(int k) throws IndexOutOfBoundsException {
        needNumberIn(wishRow, k);
        return done(wishRow.remove(k));
    }

    public int grant(int k) throws IndexOutOfBoundsException {
        needNumberIn(wishRow, k);
        int number = addSpan(wishRow.begin(k), wishRow.end(k), false);
        if (number == NONE) {
            return refuse();
        }
        wishRow.remove(k);
        return done(number);
    }

    // ---- what is asked of cells

    public int second(int cell) throws IndexOutOfBoundsException {
        needCell(cell);
        return secondOf(cells[cell]);
    }

    public int nano(int cell) throws IndexOutOfBoundsException {
        needCell(cell);
        return nanoOf(cells[cell]);
    }

    public String text(int cell) throws IndexOutOfBoundsException {
        needCell(cell);
        StringBuilder text = new StringBuilder();
        text.append(secondOf(cells[cell]));
        text.append(' ');
        text.append(nanoOf(cells[cell]));
        return text.toString();
    }

    public int order(int one, int other) throws IndexOutOfBoundsException {
        needCell(one);
        needCell(other);
        return sideOf(cells[one], cells[other]);
    }

    public boolean isBefore(int one, int other) throws IndexOutOfBoundsException {
        needCell(one);
        needCell(other);
        return cells[one] < cells[other];
    }

    public boolean isAfter(int one, int other) throws IndexOutOfBoundsException {
        needCell(one);
        needCell(other);
        return cells[one] > cells[other];
    }

    public boolean same(int one, int other, int how) throws IndexOutOfBoundsException, IllegalArgumentException {
        needCell(one);
        needCell(other);
        needThat(isWithin(how, 0, 2));
        return how == 2 || cells[one] == cells[other];
    }

    public int apart(int one, int other, int what) throws IndexOutOfBoundsException, IllegalArgumentException {
        needCell(one);
        needCell(other);
        needThat(isWithin(what, 0, 1));
        return partOf(cells[other] - cells[one], what);
    }

    // ---- what is asked of the calendar

    public int calendar(int what) throws IllegalArgumentException {
        needThat(isWithin(what, 0, 3));
        return partOf(what < 2 ? from : until, what);
    }

    public int spans() {
        return spanRow.count();
    }

    public int ofSpan(int k, int what) throws IndexOutOfBoundsException, IllegalArgumentException {
        needNumberIn(spanRow, k);
        needThat(isWithin(what, 0, 4));
        if (what == 4) {
            return spanRow.isOver(k) ? 1 : 0;
        }
        return partIn(spanRow, k, what);
    }

    public boolean meets(int k, int other) throws IndexOutOfBoundsException {
        needNumberIn(spanRow, k);
        needNumberIn(spanRow, other);
        return spanRow.doMeet(k, other);
    }

    public int clashes() {
        int pairs = 0;
        for (int k = 0; k < spanRow.count(); k++) {
            for (int j = 0; j < k; j++) {
                if (spanRow.doMeet(k, j)) {
                    pairs++;
                }
            }
        }
        return pairs;
    }

    public int at(int cell) throws IndexOutOfBoundsException {
        needCell(cell);
        return spanRow.firstWith(cells[cell]);
    }

    public int deepest() {
        return spanRow.depth();
    }

    public boolean isFree(int one, int other) throws IndexOutOfBoundsException {
        needCell(one);
        needCell(other);
        long begin = cells[one];
        long end = cells[other];
        return begin < end && isInCalendar(begin, end) && spanRow.firstMeeting(begin, end, NONE) == NONE;
    }

    public int frees() {
        findFrees();
        return freeRow.count();
    }

    public int ofFree(int k, int what) throws IndexOutOfBoundsException, IllegalArgumentException {
        findFrees();
        needNumberIn(freeRow, k);
        needThat(isWithin(what, 0, 3));
        return partIn(freeRow, k, what);
    }

    public int freeAt(int cell) throws IndexOutOfBoundsException {
        needCell(cell);
        findFrees();
        return freeRow.firstWith(cells[cell]);
    }

    public int length(int what) throws IllegalArgumentException {
        needThat(isWithin(what, 0, 5));
        if (what < 2) {
            return partOf(takenLength(), what);
        }
        findFrees();
        return partOf(what < 4 ? freeLength() : until - from, what);
    }

    // ---- what is asked of wishes

    public int wishes() {
        return wishRow.count();
    }

    public int ofWish(int k, int what) throws IndexOutOfBoundsException, IllegalArgumentException {
        needNumberIn(wishRow, k);
        needThat(isWithin(what, 0, 3));
        return partIn(wishRow, k, what);
    }

    public boolean isApart(int set) throws IllegalArgumentException {
        needThat(isWithin(set, 0, setOfAllWishes()));
        return isWithoutMeeting(set);
    }

    public int chosen() {
        int set = 0;
        for (int n = 0; n < wishRow.count(); n++) {
            int k = nextChosen(set);
            if (k != NONE) {
                set |= 1 << k;
            }
        }
        return set;
    }

    public int most(int how) throws IllegalArgumentException {
        needThat(isWithin(how, 0, 1));
        return how == 0 ? Integer.bitCount(chosen()) : mostOfAllSets();
    }

    public int crowd() {
        return wishRow.depth();
    }

    public int room(int k) throws IndexOutOfBoundsException {
        needNumberIn(wishRow, k);
        findRooms();
        return roomOf[k];
    }

    public int rooms() {
        findRooms();
        return roomCount();
    }

    // ---- the whole

    public int house(int what) throws IllegalArgumentException {
        needThat(isWithin(what, 0, 2));
        if (what == 0) {
            return acts;
        }
        return what == 1 ? refusals : knocks;
    }

    public int knock() {
        knocks++;
        return knocks;
    }

    public boolean isSound() {
        return from < until && isSoundInSpans() && isSoundInFrees() && isSoundInWishes();
    }

    public long digest() {
        findFrees();
        findRooms();
        long d = 8009L;
        d = mixCells(d);
        d = mixSpans(d);
        d = mixFrees(d);
        d = mixWishes(d);
        d = mix(d, acts);
        d = mix(d, refusals);
        d = mix(d, knocks);
        return mix(d, isSound() ? 1 : 0);
    }

    // ---- what is asked for, before anything is done

    private static void needCell(int cell) {
        if (!isWithin(cell, 0, CELLS - 1)) {
            throw new IndexOutOfBoundsException("there is no such CELL");
        }
    }

    private static void needNumberIn(Row row, int k) {
        if (!isWithin(k, 0, row.count() - 1)) {
            throw new IndexOutOfBoundsException("there is no such number");
        }
    }

    private static void needUnits(int unit, int n, int least) {
        needThat(isWithin(unit, 0, 2) && isWithin(n, least, MOST_UNITS));
    }

    private static void needThat(boolean isFine) {
        if (!isFine) {
            throw new IllegalArgumentException("an argument is not one that the document lets be");
        }
    }

    private static boolean isWithin(int number, int least, int most) {
        return number >= least && number <= most;
    }

    private int done(int answer) {
        acts++;
        return answer;
    }

    private int refuse() {
        refusals++;
        return REFUSED;
    }

    // ---- moments

    private static boolean isLet(long moment) {
        return moment >= FIRST_LET && moment <= LAST_LET;
    }

    private static int secondOf(long count) {
        return (int) Math.floorDiv(count, A_SECOND);
    }

    private static int nanoOf(long count) {
        return (int) Math.floorMod(count, A_SECOND);
    }

    /** The document's lists of what is told have the SECOND at each even number, its NANO behind it. */
    private static int partOf(long count, int what) {
        return (what & 1) == 0 ? secondOf(count) : nanoOf(count);
    }

    private static int partIn(Row row, int k, int what) {
        return partOf(what < 2 ? row.begin(k) : row.end(k), what);
    }

    private static long lengthOf(int unit, int n) {
        if (unit == 0) {
            return n * A_SECOND;
        }
        return n * (unit == 1 ? A_THOUSANDTH : A_BILLIONTH);
    }

    private static int sideOf(long moment, long other) {
        if (moment == other) {
            return 0;
        }
        return moment < other ? -1 : 1;
    }

    private int bring(long moment, int into) {
        int isOther = cells[into] == moment ? 0 : 1;
        cells[into] = moment;
        return isOther;
    }

    private boolean isAllLetAfter(long on) {
        for (int k = 0; k < CELLS; k++) {
            if (!isLet(cells[k] + on)) {
                return false;
            }
        }
        return isLet(from + on) && isLet(until + on) && spanRow.isLetAfter(on) && wishRow.isLetAfter(on);
    }

    // ---- the calendar

    private boolean isInCalendar(long begin, long end) {
        return begin >= from && end <= until;
    }

    private int addSpan(long begin, long end, boolean isOver) {
        if (begin >= end || !isInCalendar(begin, end) || spanRow.count() >= MOST_SPANS) {
            return NONE;
        }
        if (!isOver && spanRow.firstMeeting(begin, end, NONE) != NONE) {
            return NONE;
        }
        return spanRow.add(begin, end, isOver);
    }

    private boolean changeSpan(int k, long begin, long end) {
        if (begin >= end || !isInCalendar(begin, end) || spanRow.firstMeeting(begin, end, k) != NONE) {
            return false;
        }
        spanRow.put(k, begin, end);
        return true;
    }

    private long firstWithoutSpan(long first, long length) {
        long here = first;
        // No SPAN is passed twice: behind its end it is met no more.
        for (int n = 0; n < spanRow.count(); n++) {
            int k = spanRow.firstMeeting(here, here + length, NONE);
            if (k == NONE) {
                return here;
            }
            here = spanRow.end(k);
        }
        return here;
    }

    private long firstTaken(long first) {
        return spanRow.firstWith(first) == NONE ? spanRow.nextBegin(first, until) : first;
    }

    private void findFrees() {
        freeRow.clear();
        long here = from;
        // Every round but the first one passes a SPAN.
        for (int n = 0; n <= spanRow.count() && here < until; n++) {
            long begin = firstWithoutSpan(here, A_BILLIONTH);
            here = firstTaken(begin);
            if (begin < here) {
                freeRow.add(begin, here, false);
            }
        }
    }

    /** Of what findFrees() left: found in here, they would make the calls of digest() go one deeper. */
    private long freeLength() {
        long length = 0L;
        for (int k = 0; k < freeRow.count(); k++) {
            length += freeRow.end(k) - freeRow.begin(k);
        }
        return length;
    }

    /** Not the CALENDAR less what is FREE, so that isSound() has two sums to compare. */
    private long takenLength() {
        long length = 0L;
        long here = from;
        for (int n = 0; n <= spanRow.count() && here < until; n++) {
            long begin = firstTaken(here);
            here = firstWithoutSpan(begin, A_BILLIONTH);
            length += here - begin;
        }
        return length;
    }

    // ---- wishes

    private int setOfAllWishes() {
        return (1 << wishRow.count()) - 1;
    }

    private boolean meetsOneOf(int k, int set) {
        for (int j = 0; j < wishRow.count(); j++) {
            if ((set >> j & 1) == 1 && wishRow.doMeet(k, j)) {
                return true;
            }
        }
        return false;
    }

    private boolean isWithoutMeeting(int set) {
        for (int k = 0; k < wishRow.count(); k++) {
            int bit = 1 << k;
            if ((set & bit) != 0 && meetsOneOf(k, set - bit)) {
                return false;
            }
        }
        return true;
    }

    private int nextChosen(int set) {
        int found = NONE;
        for (int k = 0; k < wishRow.count(); k++) {
            // One that is in the set is passed by, too: it MEETS itself.
            if (!meetsOneOf(k, set) && (found == NONE || wishRow.end(k) < wishRow.end(found))) {
                found = k;
            }
        }
        return found;
    }

    private int mostOfAllSets() {
        int most = 0;
        int last = setOfAllWishes();
        for (int set = 0; set <= last; set++) {
            int size = Integer.bitCount(set);
            if (size > most && isWithoutMeeting(set)) {
                most = size;
            }
        }
        return most;
    }

    private void findRooms() {
        for (int k = 0; k < ROW_LENGTH; k++) {
            roomOf[k] = NONE;
        }
        for (int n = 0; n < wishRow.count(); n++) {
            int k = firstWithoutRoom();
            if (k != NONE) {
                roomOf[k] = smallestRoom(k);
            }
        }
    }

    private int firstWithoutRoom() {
        int found = NONE;
        for (int k = 0; k < wishRow.count(); k++) {
            if (roomOf[k] == NONE && (found == NONE || wishRow.begin(k) < wishRow.begin(found))) {
                found = k;
            }
        }
        return found;
    }

    private int smallestRoom(int k) {
        int used = 0;
        for (int j = 0; j < wishRow.count(); j++) {
            if (roomOf[j] != NONE && wishRow.doMeet(k, j)) {
                used |= 1 << roomOf[j];
            }
        }
        int room = 0;
        while (room < MOST_WISHES && (used >> room & 1) == 1) {
            room++;
        }
        return room;
    }

    /** Of what findRooms() left. */
    private int roomCount() {
        int count = 0;
        for (int k = 0; k < wishRow.count(); k++) {
            count = Math.max(count, roomOf[k] + 1);
        }
        return count;
    }

    // ---- the whole

    private boolean isSoundInSpans() {
        for (int k = 0; k < spanRow.count(); k++) {
            if (!isInCalendar(spanRow.begin(k), spanRow.end(k))) {
                return false;
            }
            for (int j = 0; j < k; j++) {
                if (spanRow.doMeet(k, j) && !spanRow.isOver(k) && !spanRow.isOver(j)) {
                    return false;
                }
            }
        }
        return true;
    }

    private boolean isSoundInFrees() {
        findFrees();
        for (int k = 0; k < freeRow.count(); k++) {
            if (spanRow.firstMeeting(freeRow.begin(k), freeRow.end(k), NONE) != NONE) {
                return false;
            }
        }
        return takenLength() + freeLength() == until - from;
    }

    private boolean isSoundInWishes() {
        findRooms();
        int set = chosen();
        return isWithoutMeeting(set) && Integer.bitCount(set) == mostOfAllSets() && roomCount() == crowd();
    }

    private static long mix(long d, int v) {
        return d * 31L + v;
    }

    private static long mixParts(long d, Row row, int k) {
        long mixed = d;
        for (int what = 0; what < 4; what++) {
            mixed = mix(mixed, partIn(row, k, what));
        }
        return mixed;
    }

    private long mixCells(long d) {
        long mixed = d;
        for (int cell = 0; cell < CELLS; cell++) {
            mixed = mix(mixed, secondOf(cells[cell]));
            mixed = mix(mixed, nanoOf(cells[cell]));
            mixed = mix(mixed, spanRow.firstWith(cells[cell]));
            mixed = mix(mixed, freeRow.firstWith(cells[cell]));
        }
        return mixed;
    }

    private long mixSpans(long d) {
        long mixed = d;
        for (int what = 0; what < 4; what++) {
            mixed = mix(mixed, calendar(what));
        }
        mixed = mix(mixed, spanRow.count());
        for (int k = 0; k < spanRow.count(); k++) {
            mixed = mixParts(mixed, spanRow, k);
            mixed = mix(mixed, spanRow.isOver(k) ? 1 : 0);
        }
        mixed = mix(mixed, clashes());
        return mix(mixed, deepest());
    }

    private long mixFrees(long d) {
        long mixed = mix(d, freeRow.count());
        for (int k = 0; k < freeRow.count(); k++) {
            mixed = mixParts(mixed, freeRow, k);
        }
        for (int what = 0; what < 6; what++) {
            mixed = mix(mixed, length(what));
        }
        return mixed;
    }

    private long mixWishes(long d) {
        long mixed = mix(d, wishRow.count());
        for (int k = 0; k < wishRow.count(); k++) {
            mixed = mixParts(mixed, wishRow, k);
            mixed = mix(mixed, roomOf[k]);
        }
        mixed = mix(mixed, chosen());
        mixed = mix(mixed, mostOfAllSets());
        return mix(mixed, crowd());
    }

    /** Pieces of the line, numbered from 0 as they came: SPANS, WISHES or FREE ones. */
    private static final class Row {
        private final long[] begins;
        private final long[] ends;
        private final boolean[] overs;
        private int count;

        Row() {
            begins = new long[ROW_LENGTH];
            ends = new long[ROW_LENGTH];
            overs = new boolean[ROW_LENGTH];
        }

        int count() {
            return count;
        }

        private boolean isIn(int k) {
            return k >= 0 && k < count;
        }

        long begin(int k) {
            return isIn(k) ? begins[k] : 0L;
        }

        long end(int k) {
            return isIn(k) ? ends[k] : 0L;
        }

        boolean isOver(int k) {
            return isIn(k) && overs[k];
        }

        int clear() {
            int were = count;
            count = 0;
            return were;
        }

        int add(long begin, long end, boolean isOver) {
            if (count >= ROW_LENGTH) {
                return NONE;
            }
            begins[count] = begin;
            ends[count] = end;
            overs[count] = isOver;
            count++;
            return count - 1;
        }

        int remove(int k) {
            if (isIn(k)) {
                count--;
                for (int j = k; j < count; j++) {
                    begins[j] = begins[j + 1];
                    ends[j] = ends[j + 1];
                    overs[j] = overs[j + 1];
                }
            }
            return count;
        }

        void put(int k, long begin, long end) {
            if (isIn(k)) {
                begins[k] = begin;
                ends[k] = end;
            }
        }

        boolean isLetAfter(long on) {
            for (int k = 0; k < count; k++) {
                if (!isLet(begins[k] + on) || !isLet(ends[k] + on)) {
                    return false;
                }
            }
            return true;
        }

        void goOn(long on) {
            for (int k = 0; k < count; k++) {
                begins[k] += on;
                ends[k] += on;
            }
        }

        boolean doMeet(int k, int other) {
            if (k < 0 || k >= count || other < 0 || other >= count) {
                return false;
            }
            return begins[k] < ends[other] && begins[other] < ends[k];
        }

        int firstMeeting(long begin, long end, int but) {
            for (int k = 0; k < count; k++) {
                if (k != but && begins[k] < end && begin < ends[k]) {
                    return k;
                }
            }
            return NONE;
        }

        int firstWith(long moment) {
            return firstMeeting(moment, moment + A_BILLIONTH, NONE);
        }

        long nextBegin(long first, long otherwise) {
            long next = otherwise;
            for (int k = 0; k < count; k++) {
                if (begins[k] >= first && begins[k] < next) {
                    next = begins[k];
                }
            }
            return next;
        }

        int beginsBefore(long moment) {
            int before = 0;
            for (int k = 0; k < count; k++) {
                if (begins[k] < moment) {
                    before++;
                }
            }
            return before;
        }

        int endsBefore(long moment) {
            int before = 0;
            for (int k = 0; k < count; k++) {
                if (ends[k] < moment) {
                    before++;
                }
            }
            return before;
        }

        /** As many as at most have one MOMENT in common have the begin of one of them in common. */
        int depth() {
            int deepest = 0;
            for (int k = 0; k < count; k++) {
                int depth = 0;
                for (int j = 0; j < count; j++) {
                    if (begins[j] <= begins[k] && begins[k] < ends[j]) {
                        depth++;
                    }
                }
                deepest = Math.max(deepest, depth);
            }
            return deepest;
        }
    }
}
