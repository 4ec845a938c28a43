import java.util.Arrays;

/**
 * A drum of slips for A and for B, laid in by heaps, drawn and read one by one, and in how many of
 * all rows that can be A is ahead. The words in capitals are those of DOC.md.
 */
public final class AlwaysAhead {
    public static final int NONE = -1;

    private static final int BAD = -2;
    private static final int OTHER = -3;
    private static final int NOTHING = -4;
    private static final int STUCK = -5;
    private static final int FULL = -6;
    private static final int FAULTS_FROM = -20;

    private static final int MOST_HEAPS = 4;
    private static final int MOST_OF_HEAP = 9;
    private static final int MOST_SLIPS = 24;
    private static final int MOMENTS = MOST_SLIPS + 1;
    private static final int MOST_FACTS = 4;
    private static final int MOST_TIMES = 9;
    private static final int MOST_LOST = 20;
    private static final int SHELVES = 8;
    private static final int SORTS = 5;
    private static final int MOST_ELEMENTS = 40;
    private static final int MOST_BYTES = 250;

    private static final int AT = 0;
    private static final int AHEAD = 1;
    private static final int LEVEL = 2;
    private static final int NEVER = 3;

    private static final int SHAKEN = 1;
    private static final int HEAPED = 2;
    private static final int TWOS = 3;
    private static final int BACK = 4;
    private static final int SURELY = 5;
    private static final int ONCE = 6;
    private static final int DRAWING_FROM = 10;
    private static final int[] KIND_ABOVE = {NONE, 0, SHAKEN, HEAPED, HEAPED, HEAPED, SHAKEN};
    private static final int[] ORDERS = {1, 1, 2, 6, 24};

    private final Drum now = new Drum();
    private final Drum kept = new Drum();
    private final Drum before = new Drum();
    private final Cells cells = new Cells();
    private final Tape tape = new Tape();
    private final Shelf[] shelves = new Shelf[SHELVES];
    private final int[] trial = new int[MOST_HEAPS];
    private final int[] refusals = new int[BAD - FULL + 1];
    private boolean isKept;

    public AlwaysAhead() {
        for (int s = 0; s < SHELVES; s++) {
            shelves[s] = new Shelf();
        }
    }

    // ---- SHELVES ----

    public int row(int s, int sort, int n) {
        if (!isShelf(s) || !isWithin(sort, SORTS - 1) || !isWithin(n, MOST_ELEMENTS)) {
            return refuse(BAD);
        }
        shelves[s].becomeRow(sort, n);
        return 1;
    }

    public int set(int s, int i, long v) {
        int against = againstRows(s, s);
        if (against != 0) {
            return refuse(against);
        }
        if (!shelves[s].hasElement(i)) {
            return refuse(BAD);
        }
        shelves[s].put(i, v);
        return 1;
    }

    public int copy(int p, int q, int i, int j, int n) {
        int against = againstRows(p, q);
        if (against == 0 && shelves[p].thing != shelves[q].thing) {
            against = OTHER;
        }
        if (against != 0) {
            return refuse(against);
        }
        if (!shelves[p].hasElements(i, n) || !shelves[q].hasElements(j, n)) {
            return refuse(BAD);
        }
        System.arraycopy(shelves[p].elements, i, shelves[q].elements, j, n);
        return n;
    }

    public long element(int s, int i) {
        if (!isShelf(s) || !shelves[s].isRow() || !shelves[s].hasElement(i)) {
            return 0;
        }
        return shelves[s].elements[i];
    }

    public int holds(int s) {
        return isShelf(s) ? shelves[s].thing : NONE;
    }

    public int drawing(int s, int kind, int a) {
        if (!isShelf(s) || !isWithin(kind, ONCE) || kind < SHAKEN || !isWithin(a, MOST_TIMES)) {
            return refuse(BAD);
        }
        shelves[s].becomeDrawing(kind, a);
        return 1;
    }

    public int says(int s, int kind) {
        if (!isShelf(s) || !isWithin(kind, ONCE)) {
            return refuse(BAD);
        }
        Shelf shelf = shelves[s];
        if (shelf.isEmpty()) {
            return refuse(NOTHING);
        }
        if (!shelf.isDrawing() || !isUnder(shelf.kind(), kind)) {
            return refuse(OTHER);
        }
        return kind == 0 ? shelf.times : saying(shelf.kind(), shelf.times);
    }

    public int head() {
        int first = NONE;
        int most = 0;
        for (int s = 0; s < SHELVES; s++) {
            if (shelves[s].isDrawing()) {
                int rows = saying(shelves[s].kind(), shelves[s].times);
                if (first == NONE || rows > most) {
                    first = s;
                    most = rows;
                }
            }
        }
        return first == NONE ? refuse(STUCK) : first;
    }

    // ---- THE DRUM ----

    public int heap(int a, int b) {
        if (!isWithin(a, MOST_OF_HEAP) || !isWithin(b, MOST_OF_HEAP) || a + b == 0) {
            return refuse(BAD);
        }
        if (now.reads > 0) {
            return refuse(STUCK);
        }
        if (now.heaps >= MOST_HEAPS || !now.hasRoom(a + b)) {
            return refuse(FULL);
        }
        return now.layIn(a, b);
    }

    public int fact(int kind, int t, int v) {
        if (!isWithin(kind, NEVER) || !isWithin(t, MOST_SLIPS) || !isWithin(v, MOST_SLIPS)) {
            return refuse(BAD);
        }
        if (now.facts >= MOST_FACTS) {
            return refuse(FULL);
        }
        return now.remember(kind, t, v);
    }

    public int forget(int i) {
        if (!isWithin(i, now.facts - 1)) {
            return refuse(BAD);
        }
        return now.dropFact(i);
    }

    public int swap(int i, int j) {
        if (!isWithin(i, now.heaps - 1) || !isWithin(j, now.heaps - 1)) {
            return refuse(BAD);
        }
        if (now.reads > 0) {
            return refuse(STUCK);
        }
        now.exchange(i, j);
        return i == j ? 0 : 1;
    }

    public int feed(int letter) {
        if (!isWithin(letter, 255)) {
            return refuse(BAD);
        }
        if (tape.size >= MOST_BYTES) {
            return refuse(FULL);
        }
        return tape.append(letter);
    }

    public int wipe() {
        int size = tape.size;
        tape.size = 0;
        return size;
    }

    public int drum() {
        before.takeOver(now);
        int statements = tape.readInto(now);
        tape.size = 0;
        if (statements == NONE) {
            now.takeOver(before);
            refuse(BAD);
            return FAULTS_FROM - tape.tokenFrom;
        }
        return statements;
    }

    public int heapOf(int heap, int what) {
        if (!isWithin(heap, now.heaps - 1) || !isWithin(what, 2)) {
            return refuse(BAD);
        }
        if (what == 2) {
            return now.placeOf(heap);
        }
        return what == 0 ? now.aSlips[heap] : now.bSlips[heap];
    }

    public int factOf(int fact, int what) {
        if (!isWithin(fact, now.facts - 1) || !isWithin(what, 2)) {
            return refuse(BAD);
        }
        if (what == 0) {
            return now.factKind[fact];
        }
        return what == 1 ? now.factT[fact] : now.factV[fact];
    }

    // ---- READ ----

    public int read(boolean isA) {
        return now.take(isA) ? now.reads : refuse(STUCK);
    }

    public int slip(int i) {
        return isWithin(i, now.reads - 1) ? now.slipsRead[i] : refuse(BAD);
    }

    public int again() {
        int were = now.reads;
        now.layBack();
        return were;
    }

    public int lead() {
        return 2 * now.aRead - now.reads;
    }

    public int isSure() {
        cells.layHeaps(now, now.order);
        cells.markUnsure();
        return cells.isMarked(now.reads, now.aRead) ? 0 : 1;
    }

    // ---- ROWS ----

    public int rows() {
        cells.layHeaps(now, now.order);
        return cells.countRows();
    }

    public int ways() {
        cells.layFitting(now);
        return cells.countRows();
    }

    public int ahead(int k) {
        return isWithin(k, MOST_TIMES) ? fittingAhead(k) : refuse(BAD);
    }

    public int never() {
        cells.layFitting(now);
        cells.keepNotBehind(1, cells.n);
        return cells.countRows();
    }

    public int level(int m) {
        if (!isWithin(m, MOST_SLIPS)) {
            return refuse(BAD);
        }
        tallyLevel();
        return cells.tally[m];
    }

    public int last(int t) {
        if (!isWithin(t, MOST_SLIPS)) {
            return refuse(BAD);
        }
        cells.layFitting(now);
        if (t > cells.n) {
            return 0;
        }
        cells.keepLevel(t);
        cells.closeLevel(t + 1, cells.n);
        return cells.countRows();
    }

    public int greatest(int g) {
        if (!isWithin(g, MOST_SLIPS)) {
            return refuse(BAD);
        }
        return fittingNotAbove(g) - fittingNotAbove(g - 1);
    }

    public int sure(int t) {
        if (!isWithin(t, MOST_SLIPS)) {
            return refuse(BAD);
        }
        tallySure();
        return cells.tally[t];
    }

    public int soFar(int t, int a) {
        if (!isWithin(t, MOST_SLIPS) || !isWithin(a, MOST_SLIPS)) {
            return refuse(BAD);
        }
        cells.layFitting(now);
        if (t > cells.n) {
            return 0;
        }
        cells.keepAt(t, a);
        return cells.countRows();
    }

    public long spent() {
        cells.layFitting(now);
        cells.markAhead();
        return cells.sumMarks();
    }

    public long mean() {
        cells.layFitting(now);
        cells.markUnsure();
        return cells.sumMarks();
    }

    public int price(int k) {
        if (!isWithin(k, MOST_TIMES)) {
            return refuse(BAD);
        }
        cells.layFitting(now);
        int all = cells.countRows();
        if (all == 0) {
            return refuse(STUCK);
        }
        return (int) (1000L * fittingAhead(k) / all);
    }

    public int often() {
        tallyLevel();
        int best = 0;
        for (int m = 1; m <= MOST_SLIPS; m++) {
            if (cells.tally[m] > cells.tally[best]) {
                best = m;
            }
        }
        return best;
    }

    public int half() {
        tallySure();
        int all = cells.tallyFrom(0);
        if (all == 0) {
            return refuse(STUCK);
        }
        int t = 0;
        int surely = cells.tally[0];
        while (t < MOST_SLIPS && 2 * surely < all) {
            t++;
            surely += cells.tally[t];
        }
        return t;
    }

    // ---- WHAT ELSE ----

    public int judge(int s) {
        int against = againstRows(s, s);
        if (against != 0) {
            return refuse(against);
        }
        cells.layFitting(now);
        return firstWrong(shelves[s]);
    }

    public int told(int s, int what) {
        int against = isWithin(what, 2) ? againstTold(s) : BAD;
        return against != 0 ? refuse(against) : toldOf(shelves[s], what);
    }

    public int luck(int s) {
        int against = againstTold(s);
        if (against != 0) {
            return refuse(against);
        }
        cells.layFitting(now);
        cells.markAhead();
        cells.tallyMarks();
        return cells.tallyFrom(toldOf(shelves[s], 0));
    }

    public int order(boolean most, int i) {
        if (!isWithin(i, now.heaps - 1)) {
            return refuse(BAD);
        }
        int best = 0;
        long bestSpent = spentBy(0);
        for (int number = 1; number < ORDERS[now.heaps]; number++) {
            long spent = spentBy(number);
            if (most ? spent > bestSpent : spent < bestSpent) {
                best = number;
                bestSpent = spent;
            }
        }
        tryOrder(best);
        return trial[i];
    }

    public int lost(int l) {
        if (!isWithin(l, MOST_LOST)) {
            return refuse(BAD);
        }
        int gap = Math.abs(2 * now.aAll - now.slips);
        long cases = 0;
        for (int x = 0; x <= l; x++) {
            int inTheEnd = gap + 2 * x - l;
            if (gap == 0 ? inTheEnd > 0 : inTheEnd <= 0) {
                cases += choose(l, x);
            }
        }
        return (int) cases;
    }

    public int books(int p, int q) {
        int against = againstBooks(p, q);
        if (against != 0) {
            return refuse(against);
        }
        return firstUnlike(shelves[p], shelves[q]) == NONE ? agreeing(shelves[p], shelves[q]) : 0;
    }

    public int unlike(int p, int q) {
        int against = againstBooks(p, q);
        return against != 0 ? refuse(against) : firstUnlike(shelves[p], shelves[q]);
    }

    public int draw() {
        if (now.reads >= now.slips) {
            return refuse(STUCK);
        }
        return now.takeByDraw();
    }

    public int evening() {
        int left = now.slips - now.reads;
        for (int i = 0; i < left; i++) {
            now.takeByDraw();
        }
        return now.momentsAhead();
    }

    public int seed(int v) {
        int was = now.seed;
        now.seed = v;
        return was;
    }

    public int image() {
        kept.takeOver(now);
        isKept = true;
        return 1;
    }

    public int back() {
        if (!isKept) {
            return refuse(STUCK);
        }
        now.takeOver(kept);
        return 1;
    }

    public int status(int what) {
        switch (what) {
            case 0: return now.heaps;
            case 1: return now.slips;
            case 2: return now.reads;
            case 3: return now.facts;
            case 4: return now.aAll;
            case 5: return now.slips - now.aAll;
            case 6: return now.aRead;
            case 7: return tape.size;
            case 8: return now.seed;
            case 9: return shelvesInUse();
            case 10: return now.heapNow();
            default: return what >= 12 && what - 12 < refusals.length ? refusals[what - 12] : NONE;
        }
    }

    // ---- what the calls share ----

    private static boolean isWithin(int number, int most) {
        return number >= 0 && number <= most;
    }

    private static boolean isShelf(int s) {
        return isWithin(s, SHELVES - 1);
    }

    private int refuse(int why) {
        int i = BAD - why;
        if (isWithin(i, refusals.length - 1)) {
            refusals[i]++;
        }
        return why;
    }

    private int shelvesInUse() {
        int used = 0;
        for (int s = 0; s < SHELVES; s++) {
            used += shelves[s].isEmpty() ? 0 : 1;
        }
        return used;
    }

    /** What speaks against taking the ROWS in SHELVES p and q: a refusal, or 0. */
    private int againstRows(int p, int q) {
        if (!isShelf(p) || !isShelf(q)) {
            return BAD;
        }
        if (shelves[p].isDrawing() || shelves[q].isDrawing()) {
            return OTHER;
        }
        return shelves[p].isEmpty() || shelves[q].isEmpty() ? NOTHING : 0;
    }

    private int againstTold(int s) {
        int against = againstRows(s, s);
        if (against != 0) {
            return against;
        }
        cells.layFitting(now);
        return shelves[s].size != now.slips || firstWrong(shelves[s]) != NONE ? STUCK : 0;
    }

    private int againstBooks(int p, int q) {
        int against = againstRows(p, q);
        if (against == 0 && (shelves[p].size != now.slips || shelves[q].size != now.slips)) {
            return BAD;
        }
        return against;
    }

    private static boolean isUnder(int kind, int wanted) {
        int above = kind;
        for (int i = 0; i < KIND_ABOVE.length && above != wanted; i++) {
            above = isWithin(above, KIND_ABOVE.length - 1) ? KIND_ABOVE[above] : NONE;
        }
        return above == wanted;
    }

    /** In how many ROWS a DRAWING of that KIND has A ahead so many times as far. */
    private int saying(int kind, int times) {
        if (kind == SHAKEN || kind == ONCE) {
            cells.layShaken(now);
        } else {
            cells.layHeaps(now, now.order);
        }
        switch (kind) {
            case TWOS:
                cells.keepAheadByTwos(times);
                break;
            case BACK:
                cells.keepAheadFromBehind(times);
                break;
            case SURELY:
                cells.keepAheadUntilSure(times);
                break;
            case ONCE:
                return sayingOnce(times);
            default:
                cells.keepAhead(times, 1, cells.n);
                break;
        }
        return cells.countRows();
    }

    private int sayingOnce(int times) {
        int all = cells.countRows();
        cells.closeAhead(times);
        return all - cells.countRows();
    }

    private int fittingAhead(int k) {
        cells.layFitting(now);
        cells.keepAhead(k, 1, cells.n);
        return cells.countRows();
    }

    private int fittingNotAbove(int lead) {
        cells.layFitting(now);
        cells.keepNotAbove(lead);
        return cells.countRows();
    }

    private void tallyLevel() {
        cells.layFitting(now);
        cells.markLevel();
        cells.tallyMarks();
    }

    /** It is SURE at t just if it isn't so at the t MOMENTS 0 to t - 1: once sure, it stays so. */
    private void tallySure() {
        cells.layFitting(now);
        cells.markUnsure();
        cells.tallyMarks();
    }

    /** Where a told ROW can't be, by the cells of ROWS that FIT: the caller has laid them. */
    private int firstWrong(Shelf told) {
        int a = 0;
        for (int i = 0; i < told.size; i++) {
            int slip = told.slipAt(i);
            if (slip == NONE || i >= cells.n) {
                return i;
            }
            a += slip;
            if (!cells.isOpen(0, 0) || !cells.isOpen(i + 1, a)) {
                return i;
            }
        }
        return NONE;
    }

    /** Of a told ROW: MOMENTS (1 to n) at which A is ahead (0), level (1), the greatest LEAD (2). */
    private static int toldOf(Shelf told, int what) {
        int ahead = 0;
        int level = 0;
        int greatest = 0;
        int lead = 0;
        for (int i = 0; i < told.size; i++) {
            lead += told.slipAt(i) == 1 ? 1 : -1;
            ahead += lead > 0 ? 1 : 0;
            level += lead == 0 ? 1 : 0;
            greatest = Math.max(greatest, lead);
        }
        if (what == 2) {
            return greatest;
        }
        return what == 0 ? ahead : level;
    }

    private long spentBy(int number) {
        tryOrder(number);
        cells.layHeaps(now, trial);
        cells.markAhead();
        return cells.sumMarks();
    }

    /** Puts into trial the ORDER of that number, ORDERS being counted as rows of HEAPS go up. */
    private void tryOrder(int number) {
        int taken = 0;
        int rest = number;
        for (int place = 0; place < now.heaps; place++) {
            int below = Math.max(1, ORDERS[now.heaps - 1 - place]);
            int heap = freeHeap(taken, rest / below);
            rest %= below;
            taken |= 1 << heap;
            trial[place] = heap;
        }
    }

    private static int freeHeap(int taken, int skip) {
        int left = skip;
        for (int heap = 0; heap < MOST_HEAPS; heap++) {
            if ((taken >> heap & 1) == 0) {
                if (left == 0) {
                    return heap;
                }
                left--;
            }
        }
        return 0;
    }

    private static long choose(int n, int k) {
        if (k < 0 || k > n) {
            return 0;
        }
        long ways = 1;
        for (int i = 1; i <= k; i++) {
            ways = ways * (n - k + i) / i;
        }
        return ways;
    }

    private static int firstUnlike(Shelf one, Shelf two) {
        for (int i = 0; i < one.size && i < two.size; i++) {
            if (one.slipAt(i) != NONE && two.slipAt(i) != NONE && one.slipAt(i) != two.slipAt(i)) {
                return i;
            }
        }
        return NONE;
    }

    /** How many ROWS agree with two books that say nothing unlike: heap by heap the unseen are free. */
    private int agreeing(Shelf one, Shelf two) {
        long rows = 1;
        int i = 0;
        for (int place = 0; place < now.heaps; place++) {
            int heap = now.order[place];
            int end = i + now.aSlips[heap] + now.bSlips[heap];
            int unseen = 0;
            int aUnseen = now.aSlips[heap];
            for (; i < end; i++) {
                int slip = one.slipAt(i) == NONE ? two.slipAt(i) : one.slipAt(i);
                unseen += slip == NONE ? 1 : 0;
                aUnseen -= slip == 1 ? 1 : 0;
            }
            rows *= choose(unseen, aUnseen);
        }
        return (int) rows;
    }

    /** What a SHELF holds: its elements are made once, so that no call makes anything. */
    private static final class Shelf {
        int thing = NONE;
        int size;
        int times;
        final long[] elements = new long[MOST_ELEMENTS];

        void becomeRow(int sort, int n) {
            thing = sort;
            size = n;
            Arrays.fill(elements, 0L);
        }

        void becomeDrawing(int kind, int a) {
            thing = DRAWING_FROM + kind;
            size = 0;
            times = a;
        }

        boolean isEmpty() {
            return thing == NONE;
        }

        boolean isRow() {
            return thing >= 0 && thing < SORTS;
        }

        boolean isDrawing() {
            return thing >= DRAWING_FROM;
        }

        int kind() {
            return thing - DRAWING_FROM;
        }

        boolean hasElement(int i) {
            return isWithin(i, size - 1);
        }

        boolean hasElements(int from, int many) {
            return isWithin(from, size) && isWithin(many, size - from);
        }

        void put(int i, long v) {
            switch (thing) {
                case 0: elements[i] = (byte) v; break;
                case 1: elements[i] = (short) v; break;
                case 2: elements[i] = (int) v; break;
                case 4: elements[i] = v != 0 ? 1 : 0; break;
                default: elements[i] = v; break;
            }
        }

        /** 1 A, 0 B, NONE: no slip. */
        int slipAt(int i) {
            if (!hasElement(i)) {
                return NONE;
            }
            return elements[i] == 0 ? 0 : elements[i] == 1 ? 1 : NONE;
        }
    }

    /** All that is kept by an image: HEAPS, their ORDER, READ, FACTS, SEED. */
    private static final class Drum {
        int heaps;
        int slips;
        int aAll;
        final int[] aSlips = new int[MOST_HEAPS];
        final int[] bSlips = new int[MOST_HEAPS];
        final int[] order = new int[MOST_HEAPS];
        int reads;
        int aRead;
        final int[] slipsRead = new int[MOST_SLIPS];
        int facts;
        final int[] factKind = new int[MOST_FACTS];
        final int[] factT = new int[MOST_FACTS];
        final int[] factV = new int[MOST_FACTS];
        int seed = 1;

        boolean hasRoom(int more) {
            return slips + more <= MOST_SLIPS;
        }

        /** The caller has looked whether there is room. */
        int layIn(int a, int b) {
            int heap = heaps;
            if (heap < MOST_HEAPS) {
                aSlips[heap] = a;
                bSlips[heap] = b;
                order[heap] = heap;
                heaps++;
                slips += a + b;
                aAll += a;
            }
            return heap;
        }

        int remember(int kind, int t, int v) {
            int fact = facts;
            if (fact < MOST_FACTS) {
                factKind[fact] = kind;
                factT[fact] = t;
                factV[fact] = v;
                facts++;
            }
            return fact;
        }

        int dropFact(int i) {
            for (int f = i; f + 1 < facts; f++) {
                factKind[f] = factKind[f + 1];
                factT[f] = factT[f + 1];
                factV[f] = factV[f + 1];
            }
            facts--;
            return facts;
        }

        void exchange(int i, int j) {
            int heap = order[i];
            order[i] = order[j];
            order[j] = heap;
        }

        int placeOf(int heap) {
            for (int place = 0; place < heaps; place++) {
                if (order[place] == heap) {
                    return place;
                }
            }
            return NONE;
        }

        /** The HEAP drawn now; NONE: all are READ. */
        int heapNow() {
            int end = 0;
            for (int place = 0; place < heaps; place++) {
                int heap = order[place];
                end += aSlips[heap] + bSlips[heap];
                if (end > reads) {
                    return heap;
                }
            }
            return NONE;
        }

        /** How many A slips (or B slips) are left in the HEAP drawn now. */
        int leftNow(boolean isA) {
            int current = heapNow();
            int last = current == NONE ? NONE : placeOf(current);
            int left = isA ? -aRead : aRead - reads;
            for (int place = 0; place <= last; place++) {
                left += isA ? aSlips[order[place]] : bSlips[order[place]];
            }
            return last == NONE ? 0 : left;
        }

        boolean take(boolean isA) {
            if (reads >= MOST_SLIPS || leftNow(isA) <= 0) {
                return false;
            }
            slipsRead[reads] = isA ? 1 : 0;
            aRead += isA ? 1 : 0;
            reads++;
            return true;
        }

        int takeByDraw() {
            int aLeft = leftNow(true);
            boolean isA = drawBelow(aLeft + leftNow(false)) < aLeft;
            take(isA);
            return isA ? 1 : 0;
        }

        private int drawBelow(int n) {
            if (n <= 0) {
                return 0;
            }
            seed = seed * 1103515245 + 12345;
            return (seed >>> 16) % n;
        }

        void layBack() {
            reads = 0;
            aRead = 0;
        }

        int momentsAhead() {
            int moments = 0;
            int lead = 0;
            for (int i = 0; i < reads; i++) {
                lead += slipsRead[i] == 1 ? 1 : -1;
                moments += lead > 0 ? 1 : 0;
            }
            return moments;
        }

        void takeOver(Drum other) {
            heaps = other.heaps;
            slips = other.slips;
            aAll = other.aAll;
            reads = other.reads;
            aRead = other.aRead;
            facts = other.facts;
            seed = other.seed;
            System.arraycopy(other.aSlips, 0, aSlips, 0, MOST_HEAPS);
            System.arraycopy(other.bSlips, 0, bSlips, 0, MOST_HEAPS);
            System.arraycopy(other.order, 0, order, 0, MOST_HEAPS);
            System.arraycopy(other.slipsRead, 0, slipsRead, 0, MOST_SLIPS);
            System.arraycopy(other.factKind, 0, factKind, 0, MOST_FACTS);
            System.arraycopy(other.factT, 0, factT, 0, MOST_FACTS);
            System.arraycopy(other.factV, 0, factV, 0, MOST_FACTS);
        }
    }

    /**
     * Which numbers of A slips a row may have at each MOMENT: bit a of open[t]. A row is a way from
     * MOMENT 0 to MOMENT n through open cells, so that a question is put by closing cells (keep..,
     * close..) and counting what is left, or by marking cells and counting the marks met.
     */
    private static final class Cells {
        int n;
        int aAll;
        final int[] tally = new int[MOMENTS];
        private final int[] open = new int[MOMENTS];
        private final int[] marked = new int[MOMENTS];
        private final int[] counts = new int[MOMENTS];
        private final long[] sums = new long[MOMENTS];
        private final int[] layers = new int[MOMENTS * MOMENTS];

        void layHeaps(Drum drum, int[] order) {
            layNothing();
            for (int place = 0; place < drum.heaps && place < order.length; place++) {
                layHeap(drum.aSlips[order[place]], drum.bSlips[order[place]]);
            }
        }

        void layShaken(Drum drum) {
            layNothing();
            layHeap(drum.aAll, drum.slips - drum.aAll);
        }

        /** The cells of ROWS that FIT. */
        void layFitting(Drum drum) {
            layHeaps(drum, drum.order);
            int a = 0;
            for (int i = 0; i < drum.reads; i++) {
                a += drum.slipsRead[i];
                keepAt(i + 1, a);
            }
            for (int fact = 0; fact < drum.facts; fact++) {
                keepFact(drum.factKind[fact], drum.factT[fact], drum.factV[fact]);
            }
        }

        private void layNothing() {
            n = 0;
            aAll = 0;
            open[0] = 1;
        }

        private void layHeap(int as, int bs) {
            for (int d = 1; d <= as + bs && n + d < MOMENTS; d++) {
                open[n + d] = bits(aAll + Math.max(0, d - bs), aAll + Math.min(d, as));
            }
            n = Math.min(MOST_SLIPS, n + as + bs);
            aAll = Math.min(MOST_SLIPS, aAll + as);
        }

        private void keepFact(int kind, int t, int v) {
            switch (kind) {
                case AT:
                    keepAt(t, v);
                    break;
                case AHEAD:
                    keepAhead(1, t, v);
                    break;
                case LEVEL:
                    keepLevel(t);
                    break;
                default:
                    keepNotBehind(t, v);
                    break;
            }
        }

        // MOMENTS beyond n don't count: what is kept there does nothing.

        void keepAt(int t, int a) {
            if (t <= n) {
                open[t] &= bits(a, a);
            }
        }

        void keepAhead(int times, int from, int to) {
            for (int t = from; t <= to && t <= n; t++) {
                open[t] &= aheadBits(times, t);
            }
        }

        void keepNotBehind(int from, int to) {
            for (int t = from; t <= to && t <= n; t++) {
                open[t] &= bits((t + 1) / 2, MOST_SLIPS);
            }
        }

        void keepNotAbove(int lead) {
            for (int t = 0; t <= n; t++) {
                open[t] &= bits(0, Math.floorDiv(lead + t, 2));
            }
        }

        void keepLevel(int t) {
            if (t <= n) {
                open[t] &= levelBits(t);
            }
        }

        void closeLevel(int from, int to) {
            for (int t = from; t <= to && t <= n; t++) {
                open[t] &= ~levelBits(t);
            }
        }

        void closeAhead(int times) {
            for (int t = 1; t <= n; t++) {
                open[t] &= ~aheadBits(times, t);
            }
        }

        void keepAheadByTwos(int times) {
            for (int t = 2; t <= n; t += 2) {
                keepAhead(times, t, t);
            }
            keepAhead(times, Math.max(1, n), n);
        }

        /** Read from the other end, the slips behind MOMENT t come first. */
        void keepAheadFromBehind(int times) {
            for (int t = 0; t < n; t++) {
                open[t] &= bits(0, aAll - leastAhead(times, n - t));
            }
        }

        /**
         * Cells in which A has more than half of all slips stay open: of them only the first counts,
         * and A, ahead one slip before, is ahead there too. Where B has more than half, A can be
         * ahead by 0 times alone, and then it stays so.
         */
        void keepAheadUntilSure(int times) {
            for (int t = 1; t <= n; t++) {
                open[t] &= aheadBits(times, t) | bits(n / 2 + 1, MOST_SLIPS);
            }
        }

        void markAhead() {
            for (int t = 0; t <= n; t++) {
                marked[t] = aheadBits(1, t);
            }
        }

        /** MOMENT 0, level always, doesn't count. */
        void markLevel() {
            marked[0] = 0;
            for (int t = 1; t <= n; t++) {
                marked[t] = levelBits(t);
            }
        }

        /** It is not sure while nobody has more than half of all slips; at MOMENT n it always is. */
        void markUnsure() {
            for (int t = 0; t < n; t++) {
                marked[t] = bits(t - n / 2, n / 2);
            }
            marked[n] = 0;
        }

        boolean isOpen(int t, int a) {
            return isWithin(t, n) && isWithin(a, MOST_SLIPS) && (open[t] >> a & 1) == 1;
        }

        boolean isMarked(int t, int a) {
            return isWithin(t, n) && isWithin(a, MOST_SLIPS) && (marked[t] >> a & 1) == 1;
        }

        int countRows() {
            walk();
            return counts[aAll];
        }

        /** How many marked cells rows go through, all rows together. */
        long sumMarks() {
            walk();
            return sums[aAll];
        }

        private void walk() {
            Arrays.fill(counts, 0);
            Arrays.fill(sums, 0L);
            counts[0] = open[0] & 1;
            sums[0] = open[0] & marked[0] & 1;
            for (int t = 1; t <= n; t++) {
                int touched = open[t - 1] | open[t];
                for (int a = t; a >= 0; a--) {
                    if ((touched >> a & 1) == 1) {
                        walkInto(t, a);
                    }
                }
            }
        }

        private void walkInto(int t, int a) {
            if ((open[t] >> a & 1) == 0) {
                counts[a] = 0;
                sums[a] = 0;
                return;
            }
            if (a > 0) {
                counts[a] += counts[a - 1];
                sums[a] += sums[a - 1];
            }
            if ((marked[t] >> a & 1) == 1) {
                sums[a] += counts[a];
            }
        }

        /** Tells in tally how many rows go through just so many marked cells. */
        void tallyMarks() {
            Arrays.fill(layers, 0);
            int most = marked[0] & 1;
            layers[most] = open[0] & 1;
            for (int t = 1; t <= n; t++) {
                int touched = open[t - 1] | open[t];
                for (int a = t; a >= 0; a--) {
                    if ((touched >> a & 1) == 1) {
                        tallyInto(t, a, most);
                    }
                }
                most += marked[t] != 0 && most < MOST_SLIPS ? 1 : 0;
            }
            System.arraycopy(layers, aAll * MOMENTS, tally, 0, MOMENTS);
        }

        /** From many marks down to few, so that a layer is read before it is written over. */
        private void tallyInto(int t, int a, int most) {
            int here = a * MOMENTS;
            boolean isHere = (open[t] >> a & 1) == 1;
            int mark = marked[t] >> a & 1;
            for (int marks = most; marks >= 0; marks--) {
                int rows = 0;
                if (isHere) {
                    rows = layers[here + marks] + (a > 0 ? layers[here - MOMENTS + marks] : 0);
                }
                layers[here + marks] = 0;
                if (marks + mark < MOMENTS) {
                    layers[here + marks + mark] = rows;
                }
            }
        }

        int tallyFrom(int least) {
            int rows = 0;
            for (int marks = Math.max(0, least); marks < MOMENTS; marks++) {
                rows += tally[marks];
            }
            return rows;
        }

        /** How many of t slips A must have, to be ahead so many times as far. */
        private static int leastAhead(int times, int t) {
            return times < 0 ? 0 : times * t / (times + 1) + 1;
        }

        private static int aheadBits(int times, int t) {
            return bits(leastAhead(times, t), MOST_SLIPS);
        }

        private static int levelBits(int t) {
            return t % 2 == 0 ? bits(t / 2, t / 2) : 0;
        }

        private static int bits(int from, int to) {
            int least = from < 0 ? 0 : from;
            int most = to > MOST_SLIPS ? MOST_SLIPS : to;
            return least > most ? 0 : (1 << most + 1) - (1 << least);
        }
    }

    /** THE TAPE, and how a DRUM is read from it. A FAULT is always where the token at hand begins. */
    private static final class Tape {
        private static final int END = 0;
        private static final int WORD = 1;
        private static final int NUMBER = 2;
        private static final int SIGN = 3;
        private static final int NO_TOKEN = 4;

        int size;
        int tokenFrom;
        private final int[] bytes = new int[MOST_BYTES];
        private int tokenTo;
        private int token;
        private int value;

        int append(int letter) {
            if (size < MOST_BYTES) {
                bytes[size] = letter;
                size++;
            }
            return size;
        }

        /** How many STATEMENTS; NONE: a FAULT at tokenFrom (the drum is half changed then). */
        int readInto(Drum drum) {
            tokenTo = 0;
            for (int statements = 1; statements <= MOST_BYTES; statements++) {
                nextToken();
                if (!statement(drum)) {
                    return NONE;
                }
                nextToken();
                if (token == END) {
                    return statements;
                }
                if (token != SIGN) {
                    return NONE;
                }
            }
            return NONE;
        }

        private boolean statement(Drum drum) {
            if (isWord("heap")) {
                return heapStatement(drum);
            }
            if (isWord("fact")) {
                return factStatement(drum);
            }
            if (isWord("read")) {
                return readStatement(drum);
            }
            return isWord("swap") && swapStatement(drum);
        }

        private boolean heapStatement(Drum drum) {
            if (drum.reads > 0 || drum.heaps >= MOST_HEAPS || !isNumberNext(MOST_OF_HEAP)) {
                return false;
            }
            int a = value;
            if (!isNumberNext(MOST_OF_HEAP) || a + value == 0 || !drum.hasRoom(a + value)) {
                return false;
            }
            drum.layIn(a, value);
            return true;
        }

        private boolean factStatement(Drum drum) {
            if (drum.facts >= MOST_FACTS || !isNumberNext(NEVER)) {
                return false;
            }
            int kind = value;
            if (!isNumberNext(MOST_SLIPS)) {
                return false;
            }
            int t = value;
            if (!isNumberNext(MOST_SLIPS)) {
                return false;
            }
            drum.remember(kind, t, value);
            return true;
        }

        private boolean readStatement(Drum drum) {
            nextToken();
            if (token != WORD) {
                return false;
            }
            for (int i = tokenFrom; i < tokenTo; i++) {
                if (bytes[i] != 'a' && bytes[i] != 'b' || !drum.take(bytes[i] == 'a')) {
                    return false;
                }
            }
            return true;
        }

        private boolean swapStatement(Drum drum) {
            if (drum.reads > 0 || !isNumberNext(drum.heaps - 1)) {
                return false;
            }
            int i = value;
            if (!isNumberNext(drum.heaps - 1) || value == i) {
                return false;
            }
            drum.exchange(i, value);
            return true;
        }

        private boolean isWord(String word) {
            if (token != WORD || tokenTo - tokenFrom != word.length()) {
                return false;
            }
            for (int i = 0; i < word.length(); i++) {
                if (bytes[tokenFrom + i] != word.charAt(i)) {
                    return false;
                }
            }
            return true;
        }

        /** Goes to the next token: whether it is a NUMBER, of 2 digits at most, up to most. */
        private boolean isNumberNext(int most) {
            nextToken();
            if (token != NUMBER || tokenTo - tokenFrom > 2) {
                return false;
            }
            value = 0;
            for (int i = tokenFrom; i < tokenTo; i++) {
                value = value * 10 + bytes[i] - '0';
            }
            return value <= most;
        }

        private void nextToken() {
            tokenFrom = tokenTo;
            while (tokenFrom < size && bytes[tokenFrom] == ' ') {
                tokenFrom++;
            }
            token = tokenFrom < size ? tokenOf(bytes[tokenFrom]) : END;
            tokenTo = Math.min(size, tokenFrom + 1);
            while ((token == WORD || token == NUMBER)
                    && tokenTo < size && tokenOf(bytes[tokenTo]) == token) {
                tokenTo++;
            }
        }

        private static int tokenOf(int letter) {
            if (letter >= 'a' && letter <= 'z') {
                return WORD;
            }
            if (letter >= '0' && letter <= '9') {
                return NUMBER;
            }
            return letter == ';' ? SIGN : NO_TOKEN;
        }
    }
}
