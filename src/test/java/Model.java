import java.math.BigInteger;
import java.util.ArrayList;
import java.util.Comparator;
import java.util.List;
import java.util.TreeSet;

/**
 * The document told a second time, in other ways than the program's: boundaries in order instead of steps from span
 * to span, sorting instead of looking for the next one. What it answers is compared with the program's answers.
 */
final class Model {
    private static final BigInteger BILLION = BigInteger.valueOf(1000000000);
    private static final BigInteger FIRST = BigInteger.valueOf(-1000000000).multiply(BILLION);
    private static final BigInteger LAST = BILLION.multiply(BILLION).add(BILLION).subtract(BigInteger.ONE);

    private record Piece(BigInteger begin, BigInteger end, boolean isOver) {
        boolean has(BigInteger moment) {
            return moment.compareTo(begin) >= 0 && moment.compareTo(end) < 0;
        }

        boolean isBeside(Piece other) {
            return begin.compareTo(other.end) >= 0 || other.begin.compareTo(end) >= 0;
        }

        boolean isIn(Piece other) {
            return begin.compareTo(other.begin) >= 0 && end.compareTo(other.end) <= 0;
        }

        Piece after(BigInteger on) {
            return new Piece(begin.add(on), end.add(on), isOver);
        }
    }

    private final List<BigInteger> cells = new ArrayList<>();
    private Piece calendar = new Piece(BigInteger.ZERO, BigInteger.valueOf(86400).multiply(BILLION), false);
    private List<Piece> spans = new ArrayList<>();
    private List<Piece> wishes = new ArrayList<>();
    private int acts = 0;
    private int refusals = 0;
    private int knocks = 0;

    Model() {
        for (int k = 0; k < 4; k++) {
            cells.add(BigInteger.ZERO);
        }
    }

    private static void index(boolean isThere) {
        if (!isThere) {
            throw new IndexOutOfBoundsException();
        }
    }

    private static void argument(boolean isFine) {
        if (!isFine) {
            throw new IllegalArgumentException();
        }
    }

    private static void cell(int... all) {
        for (int cell : all) {
            index(cell >= 0 && cell <= 3);
        }
    }

    private static void number(List<Piece> list, int k) {
        index(k >= 0 && k < list.size());
    }

    private static BigInteger by(int unit, int n, int least) {
        argument(unit == 0 || unit == 1 || unit == 2);
        argument(n >= least && n <= 2000000000);
        return BigInteger.TEN.pow(List.of(9, 6, 0).get(unit)).multiply(BigInteger.valueOf(n));
    }

    private static boolean isLet(BigInteger moment) {
        return moment.compareTo(FIRST) >= 0 && moment.compareTo(LAST) <= 0;
    }

    private static int part(BigInteger count, int what) {
        BigInteger nano = count.mod(BILLION);
        return what % 2 == 1 ? nano.intValueExact() : count.subtract(nano).divide(BILLION).intValueExact();
    }

    private static int part(Piece piece, int what) {
        return part(what < 2 ? piece.begin : piece.end, what);
    }

    private int act(int answer) {
        acts++;
        return answer;
    }

    private int refuse() {
        refusals++;
        return -9;
    }

    int set(int cell, int second, int nanos) {
        cell(cell);
        argument(Math.abs((long) second) <= 1000000000L && Math.abs((long) nanos) <= 2000000000L);
        BigInteger moment = BigInteger.valueOf(second).multiply(BILLION).add(BigInteger.valueOf(nanos));
        if (!isLet(moment)) {
            return refuse();
        }
        cells.set(cell, moment);
        return act(part(moment, 0) - second);
    }

    int go(int cell, int unit, int n, boolean isBack) {
        cell(cell);
        BigInteger on = by(unit, n, -2000000000);
        BigInteger moment = cells.get(cell).add(isBack ? on.negate() : on);
        if (!isLet(moment)) {
            return refuse();
        }
        int side = moment.compareTo(cells.get(cell));
        cells.set(cell, moment);
        return act(side);
    }

    int copy(int cell, int into) {
        cell(cell, into);
        return act(cells.set(into, cells.get(cell)).equals(cells.get(cell)) ? 0 : 1);
    }

    int swap(int cell, int other) {
        cell(cell, other);
        boolean isSame = cells.get(cell).equals(cells.get(other));
        cells.set(cell, cells.set(other, cells.get(cell)));
        return act(isSame ? 0 : 1);
    }

    int pick(boolean isLatest, int into) {
        cell(into);
        List<BigInteger> sorted = new ArrayList<>(cells);
        sorted.sort(isLatest ? Comparator.reverseOrder() : Comparator.naturalOrder());
        int found = cells.indexOf(sorted.get(0));
        cells.set(into, sorted.get(0));
        return act(found);
    }

    int shift(int unit, int n) {
        BigInteger on = by(unit, n, -2000000000);
        List<BigInteger> all = new ArrayList<>(cells);
        List<Piece> pieces = new ArrayList<>(spans);
        pieces.addAll(wishes);
        pieces.add(calendar);
        for (Piece piece : pieces) {
            all.add(piece.begin);
            all.add(piece.end);
        }
        for (BigInteger moment : all) {
            if (!isLet(moment.add(on))) {
                return refuse();
            }
        }
        cells.replaceAll(moment -> moment.add(on));
        calendar = calendar.after(on);
        spans.replaceAll(span -> span.after(on));
        wishes.replaceAll(wish -> wish.after(on));
        return act(all.size());
    }

    int open(int one, int other) {
        cell(one, other);
        if (cells.get(one).compareTo(cells.get(other)) >= 0) {
            return refuse();
        }
        calendar = new Piece(cells.get(one), cells.get(other), false);
        return empty();
    }

    private boolean isBesideAll(Piece piece, Piece but) {
        for (Piece span : spans) {
            if (span != but && !span.isBeside(piece)) {
                return false;
            }
        }
        return true;
    }

    private boolean canCome(Piece span) {
        return span.begin.compareTo(span.end) < 0 && span.isIn(calendar) && spans.size() < 10
                && (span.isOver || isBesideAll(span, null));
    }

    int book(int one, int other, boolean isOver) {
        cell(one, other);
        Piece span = new Piece(cells.get(one), cells.get(other), isOver);
        if (!canCome(span)) {
            return refuse();
        }
        spans.add(span);
        return act(spans.size() - 1);
    }

    int unbook(int k) {
        number(spans, k);
        spans.remove(k);
        return act(spans.size());
    }

    int empty() {
        int were = spans.size();
        spans = new ArrayList<>();
        return act(were);
    }

    private boolean become(int k, Piece span) {
        if (span.begin.compareTo(span.end) >= 0 || !span.isIn(calendar) || !isBesideAll(span, spans.get(k))) {
            return false;
        }
        spans.set(k, span);
        return true;
    }

    int move(int k, int unit, int n) {
        number(spans, k);
        Piece span = spans.get(k).after(by(unit, n, -2000000000));
        if (!become(k, span)) {
            return refuse();
        }
        return act((int) spans.stream().filter(other -> other.begin.compareTo(span.begin) < 0).count());
    }

    int stretch(int k, int unit, int n) {
        number(spans, k);
        Piece was = spans.get(k);
        Piece span = new Piece(was.begin, was.end.add(by(unit, n, -2000000000)), was.isOver);
        if (!become(k, span)) {
            return refuse();
        }
        return act((int) spans.stream().filter(other -> other.end.compareTo(span.end) < 0).count());
    }

    int fit(int cell, int unit, int n, int into) {
        cell(cell, into);
        BigInteger length = by(unit, n, 1);
        TreeSet<BigInteger> tries = boundaries();
        tries.add(cells.get(cell));
        for (BigInteger moment : tries.tailSet(cells.get(cell))) {
            Piece piece = new Piece(moment, moment.add(length), false);
            if (piece.isIn(calendar) && isBesideAll(piece, null)) {
                return act(cells.set(into, moment).equals(moment) ? 0 : 1);
            }
        }
        return refuse();
    }

    int wish(int one, int other) {
        cell(one, other);
        if (cells.get(one).compareTo(cells.get(other)) >= 0 || wishes.size() == 8) {
            return refuse();
        }
        wishes.add(new Piece(cells.get(one), cells.get(other), false));
        return act(wishes.size() - 1);
    }

    int unwish(int k) {
        number(wishes, k);
        wishes.remove(k);
        return act(wishes.size());
    }

    int grant(int k) {
        number(wishes, k);
        if (!canCome(wishes.get(k))) {
            return refuse();
        }
        spans.add(wishes.remove(k));
        return act(spans.size() - 1);
    }

    int second(int cell) {
        cell(cell);
        return part(cells.get(cell), 0);
    }

    int nano(int cell) {
        cell(cell);
        return part(cells.get(cell), 1);
    }

    String text(int cell) {
        return second(cell) + " " + nano(cell);
    }

    int order(int one, int other) {
        cell(one, other);
        return cells.get(one).compareTo(cells.get(other));
    }

    boolean isBefore(int one, int other) {
        return order(one, other) == -1;
    }

    boolean isAfter(int one, int other) {
        return order(one, other) == 1;
    }

    boolean same(int one, int other, int how) {
        boolean isSame = order(one, other) == 0;
        argument(how >= 0 && how <= 2);
        return isSame || how == 2;
    }

    int apart(int one, int other, int what) {
        cell(one, other);
        argument(what == 0 || what == 1);
        return part(cells.get(other).subtract(cells.get(one)), what);
    }

    int calendar(int what) {
        argument(what >= 0 && what <= 3);
        return part(calendar, what);
    }

    int spans() {
        return spans.size();
    }

    int ofSpan(int k, int what) {
        number(spans, k);
        argument(what >= 0 && what <= 4);
        return what == 4 ? (spans.get(k).isOver ? 1 : 0) : part(spans.get(k), what);
    }

    boolean meets(int k, int other) {
        number(spans, k);
        number(spans, other);
        return !spans.get(k).isBeside(spans.get(other));
    }

    int clashes() {
        int twice = 0;
        for (Piece one : spans) {
            for (Piece other : spans) {
                twice += one == other || one.isBeside(other) ? 0 : 1;
            }
        }
        return twice / 2;
    }

    private static int firstWith(List<Piece> list, BigInteger moment) {
        for (int k = 0; k < list.size(); k++) {
            if (list.get(k).has(moment)) {
                return k;
            }
        }
        return -1;
    }

    int at(int cell) {
        cell(cell);
        return firstWith(spans, cells.get(cell));
    }

    private static int depth(List<Piece> list) {
        int deepest = 0;
        for (Piece one : list) {
            for (BigInteger moment : List.of(one.begin, one.end.subtract(BigInteger.ONE))) {
                deepest = Math.max(deepest, (int) list.stream().filter(other -> other.has(moment)).count());
            }
        }
        return deepest;
    }

    int deepest() {
        return depth(spans);
    }

    boolean isFree(int one, int other) {
        cell(one, other);
        Piece piece = new Piece(cells.get(one), cells.get(other), false);
        return order(one, other) < 0 && piece.isIn(calendar) && isBesideAll(piece, null);
    }

    private TreeSet<BigInteger> boundaries() {
        TreeSet<BigInteger> all = new TreeSet<>(List.of(calendar.begin, calendar.end));
        for (Piece span : spans) {
            all.add(span.begin);
            all.add(span.end);
        }
        return all;
    }

    /** Piece by piece between neighbouring boundaries; neighbours that are both free are put together. */
    private List<Piece> freeOnes() {
        List<Piece> free = new ArrayList<>();
        BigInteger begin = null;
        for (BigInteger end : boundaries()) {
            if (begin != null && firstWith(spans, begin) == -1) {
                int last = free.size() - 1;
                if (last >= 0 && free.get(last).end.equals(begin)) {
                    free.set(last, new Piece(free.get(last).begin, end, false));
                } else {
                    free.add(new Piece(begin, end, false));
                }
            }
            begin = end;
        }
        return free;
    }

    int frees() {
        return freeOnes().size();
    }

    int ofFree(int k, int what) {
        number(freeOnes(), k);
        argument(what >= 0 && what <= 3);
        return part(freeOnes().get(k), what);
    }

    int freeAt(int cell) {
        cell(cell);
        return firstWith(freeOnes(), cells.get(cell));
    }

    int length(int what) {
        argument(what >= 0 && what <= 5);
        BigInteger all = calendar.end.subtract(calendar.begin);
        BigInteger free = BigInteger.ZERO;
        for (Piece piece : freeOnes()) {
            free = free.add(piece.end.subtract(piece.begin));
        }
        return part(what < 2 ? all.subtract(free) : what < 4 ? free : all, what);
    }

    int wishes() {
        return wishes.size();
    }

    int ofWish(int k, int what) {
        number(wishes, k);
        argument(what >= 0 && what <= 3);
        return part(wishes.get(k), what);
    }

    boolean isApart(int set) {
        argument(set >= 0 && set >> wishes.size() == 0);
        for (int k = 0; k < wishes.size(); k++) {
            for (int j = 0; j < k; j++) {
                if ((set >> k & 1) == 1 && (set >> j & 1) == 1 && !wishes.get(k).isBeside(wishes.get(j))) {
                    return false;
                }
            }
        }
        return true;
    }

    private List<Integer> sortedWishes(Comparator<Piece> order) {
        List<Integer> numbers = new ArrayList<>();
        for (int k = 0; k < wishes.size(); k++) {
            numbers.add(k);
        }
        numbers.sort((one, other) -> order.compare(wishes.get(one), wishes.get(other)));
        return numbers;
    }

    int chosen() {
        int set = 0;
        BigInteger end = null;
        for (int k : sortedWishes(Comparator.comparing(Piece::end))) {
            if (end == null || wishes.get(k).begin.compareTo(end) >= 0) {
                set += 1 << k;
                end = wishes.get(k).end;
            }
        }
        return set;
    }

    int most(int how) {
        argument(how == 0 || how == 1);
        int most = 0;
        for (int set = 0; set < 1 << wishes.size(); set++) {
            most = isApart(set) ? Math.max(most, Integer.bitCount(set)) : most;
        }
        return most;
    }

    int crowd() {
        return depth(wishes);
    }

    private List<Integer> roomOfEach() {
        List<Integer> rooms = new ArrayList<>();
        List<List<Piece>> guests = new ArrayList<>();
        for (int k = 0; k < wishes.size(); k++) {
            rooms.add(-1);
            guests.add(new ArrayList<>());
        }
        for (int k : sortedWishes(Comparator.comparing(Piece::begin))) {
            int room = 0;
            while (!guests.get(room).stream().allMatch(wishes.get(k)::isBeside)) {
                room++;
            }
            guests.get(room).add(wishes.get(k));
            rooms.set(k, room);
        }
        return rooms;
    }

    int room(int k) {
        number(wishes, k);
        return roomOfEach().get(k);
    }

    int rooms() {
        return roomOfEach().stream().mapToInt(room -> room + 1).max().orElse(0);
    }

    int house(int what) {
        argument(what >= 0 && what <= 2);
        return List.of(acts, refusals, knocks).get(what);
    }

    int knock() {
        return ++knocks;
    }

    boolean isSound() {
        return true;
    }

    long digest() {
        List<Integer> all = new ArrayList<>();
        for (int cell = 0; cell < 4; cell++) {
            all.addAll(List.of(second(cell), nano(cell), at(cell), freeAt(cell)));
        }
        addParts(all, List.of(calendar));
        all.add(spans());
        for (Piece span : spans) {
            addParts(all, List.of(span));
            all.add(span.isOver ? 1 : 0);
        }
        all.addAll(List.of(clashes(), deepest(), frees()));
        addParts(all, freeOnes());
        for (int what = 0; what < 6; what++) {
            all.add(length(what));
        }
        all.add(wishes());
        for (int k = 0; k < wishes(); k++) {
            addParts(all, List.of(wishes.get(k)));
            all.add(room(k));
        }
        all.addAll(List.of(chosen(), most(1), crowd(), acts, refusals, knocks, 1));
        long d = 8009;
        for (int v : all) {
            d = d * 31 + v;
        }
        return d;
    }

    private static void addParts(List<Integer> all, List<Piece> pieces) {
        for (Piece piece : pieces) {
            for (int what = 0; what < 4; what++) {
                all.add(part(piece, what));
            }
        }
    }
}
