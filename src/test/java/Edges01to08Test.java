/** Promises 1 to 8: each edge that the document names of SHELVES, ROWS of elements and DRAWINGS. */
public final class Edges01to08Test {
    private static final int MIN = Integer.MIN_VALUE;
    private static final int MAX = Integer.MAX_VALUE;
    private static final int[] NO_SHELVES = {-1, 8, MIN, MAX};

    public static void main(String[] args) {
        newObject();
        row();
        rowIsNew();
        set();
        setKeepsLowestBits();
        copy();
        copyRefused();
        element();
        holds();
        drawing();
        saysRefused();
        saysByKinds();
        saysOfSmallDrums();
        saysOfEveryKind();
        Due.end("Edges01to08Test");
    }

    private static void newObject() {
        Edge.busy(new AlwaysAhead());
        Edge.Made made = Edge::empty;
        Edge.answers("1: no HEAPS", made, x -> x.status(0), 0);
        Edge.answers("1: no slips", made, x -> x.status(1), 0);
        Edge.answers("1: nothing READ", made, x -> x.status(2), 0);
        Edge.answers("1: nothing remembered", made, x -> x.status(3), 0);
        Edge.answers("1: THE TAPE is empty", made, x -> x.status(7), 0);
        Edge.answers("1: SEED is 1 at first", made, x -> x.status(8), 1);
        Edge.answers("1: SHELVES hold NOTHING", made, x -> x.status(9), 0);
        for (int number = 12; number <= 16; number++) {
            int what = number;
            Edge.answers("1: nothing was refused: status(" + what + ")", made, x -> x.status(what), 0);
        }
        for (int shelf = 0; shelf < 8; shelf++) {
            int s = shelf;
            Edge.answers("1: SHELF " + s + " holds NOTHING", made, x -> x.holds(s), -1);
        }
        Edge.refused("1: nothing is kept", made, AlwaysAhead::back, -5);
    }

    private static void row() {
        for (int bad : NO_SHELVES) {
            Edge.refused("2: SHELVES 0 to 7: " + bad, Edge::busy, x -> x.row(bad, 2, 5), -2);
        }
        for (int bad : new int[] {-1, 5, MIN, MAX}) {
            Edge.refused("2: SORTS 0 to 4: " + bad, Edge::busy, x -> x.row(0, bad, 5), -2);
        }
        for (int bad : new int[] {-1, 41, MIN, MAX}) {
            Edge.refused("2: 0 to 40 elements: " + bad, Edge::busy, x -> x.row(0, 2, bad), -2);
        }
        for (int s = 0; s < 8; s++) {
            AlwaysAhead x = new AlwaysAhead();
            Due.is("2: SHELF " + s + " holds a ROW", x.row(s, 3, 1), 1);
            Due.is("2: that SHELF", x.holds(s), 3);
            Due.is("2: no other SHELF", x.status(9), 1);
        }
        for (int sort = 0; sort < 5; sort++) {
            AlwaysAhead x = new AlwaysAhead();
            Due.is("2: SORT " + sort + ", 40 elements", x.row(0, sort, 40), 1);
            Due.is("2: SORT " + sort, x.holds(0), sort);
            Due.is("2: SORT " + sort + ", the 40th", x.set(0, 39, 1), 1);
            Due.is("2: SORT " + sort + ", the 40th", x.element(0, 39), 1);
            Due.is("2: SORT " + sort + ", no 41st", x.set(0, 40, 1), -2);
            Due.is("2: SORT " + sort + ", no elements", x.row(0, sort, 0), 1);
            Due.is("2: a ROW of no elements is a ROW", x.holds(0), sort);
            Due.is("2: a ROW of no elements is something", x.status(9), 1);
            Due.is("2: SORT " + sort + ", no first", x.set(0, 0, 1), -2);
        }
    }

    private static void rowIsNew() {
        for (int sort = 0; sort < 5; sort++) {
            AlwaysAhead x = new AlwaysAhead();
            x.row(0, sort, 40);
            for (int i = 0; i < 40; i++) {
                Due.is("2: 0, or not so, at first: SORT " + sort + ", " + i, x.element(0, i), 0);
                x.set(0, i, 1);
            }
            x.row(0, sort, 40);
            for (int i = 0; i < 40; i++) {
                Due.is("2: a new ROW behind a ROW: SORT " + sort + ", " + i, x.element(0, i), 0);
            }
        }
        AlwaysAhead x = new AlwaysAhead();
        x.row(0, 2, 3);
        x.set(0, 2, 6);
        x.row(0, 2, 2);
        Due.is("2: a shorter one has no third", x.element(0, 2), 0);
        x.row(0, 2, 3);
        Due.is("2: a longer one has a new third", x.element(0, 2), 0);
        x.drawing(0, 6, 9);
        Due.is("2: a ROW where a DRAWING was", x.row(0, 1, 1), 1);
        Due.is("2: it holds the ROW alone", x.holds(0), 1);
        Due.is("2: it holds no DRAWING", x.says(0, 0), -3);
        Due.is("2: SHELVES that hold something", x.status(9), 1);
    }

    private static void set() {
        for (int bad : NO_SHELVES) {
            Edge.refused("3: BAD SHELF " + bad, Edge::busy, x -> x.set(bad, 0, 9), -2);
            Edge.refused("3: BAD SHELF " + bad + ", BAD i", Edge::busy, x -> x.set(bad, -1, 9), -2);
        }
        Edge.refused("3: OTHER, a DRAWING", Edge::busy, x -> x.set(2, 0, 9), -3);
        Edge.refused("3: OTHER comes ahead of BAD i", Edge::busy, x -> x.set(2, -1, 9), -3);
        Edge.refused("3: NOTHING", Edge::busy, x -> x.set(3, 0, 9), -4);
        Edge.refused("3: NOTHING comes ahead of BAD i", Edge::busy, x -> x.set(3, -1, 9), -4);
        for (int bad : new int[] {-1, 4, 39, 40, MIN, MAX}) {
            Edge.refused("3: BAD i " + bad, Edge::busy, x -> x.set(0, bad, 9), -2);
        }
        Edge.refused("3: BAD i, a ROW of no elements", Edge::busy, x -> x.set(6, 0, 9), -2);
        AlwaysAhead x = new AlwaysAhead();
        Due.row(x, 0, 4, 5, 6);
        Due.is("3: the first", x.set(0, 0, 7), 1);
        Due.is("3: the last", x.set(0, 2, 9), 1);
        Due.is("3: the first", x.element(0, 0), 7);
        Due.is("3: no other", x.element(0, 1), 5);
        Due.is("3: the last", x.element(0, 2), 9);
    }

    private static void put(int sort, long v, long due) {
        AlwaysAhead x = new AlwaysAhead();
        x.row(0, sort, 1);
        Due.is("3: SORT " + sort + ", set(0, 0, " + v + ")", x.set(0, 0, v), 1);
        Due.is("3: SORT " + sort + " keeps the lowest bits of " + v, x.element(0, 0), due);
    }

    private static void setKeepsLowestBits() {
        put(0, 127, 127);
        put(0, 128, -128);
        put(0, -128, -128);
        put(0, -129, 127);
        put(0, 255, -1);
        put(0, 256, 0);
        put(0, Long.MIN_VALUE, 0);
        put(0, Long.MAX_VALUE, -1);
        put(1, 32767, 32767);
        put(1, 32768, -32768);
        put(1, -32769, 32767);
        put(1, 65535, -1);
        put(1, 65536, 0);
        put(1, Long.MAX_VALUE, -1);
        put(2, 2147483647L, 2147483647L);
        put(2, 2147483648L, -2147483648L);
        put(2, -2147483649L, 2147483647L);
        put(2, 4294967295L, -1);
        put(2, 4294967296L, 0);
        put(2, Long.MIN_VALUE, 0);
        put(3, Long.MAX_VALUE, Long.MAX_VALUE);
        put(3, Long.MIN_VALUE, Long.MIN_VALUE);
        put(3, -1, -1);
        // of booleans: whether it is not 0, not the lowest bit
        put(4, 0, 0);
        put(4, 1, 1);
        put(4, 2, 1);
        put(4, -1, 1);
        put(4, 256, 1);
        put(4, 4294967296L, 1);
        put(4, Long.MIN_VALUE, 1);
    }

    private static void copied(String what, int p, int q, int i, int j, int n, long... due) {
        AlwaysAhead x = new AlwaysAhead();
        Due.row(x, 0, 1, 2, 3, 4, 5);
        Due.row(x, 1, 6, 7, 8);
        Due.is(what, x.copy(p, q, i, j, n), n);
        for (int place = 0; place < due.length; place++) {
            Due.is(what + ", element " + place, x.element(q, place), due[place]);
        }
        long[] were = p == 0 ? new long[] {1, 2, 3, 4, 5} : new long[] {6, 7, 8};
        for (int place = 0; place < were.length && p != q; place++) {
            Due.is(what + ", those of p stay", x.element(p, place), were[place]);
        }
        Due.is(what + ", nothing is refused", x.status(12), 0);
    }

    private static void copy() {
        copied("4: all of q", 0, 1, 0, 0, 3, 1, 2, 3);
        copied("4: the last of p", 0, 1, 4, 0, 1, 5, 7, 8);
        copied("4: to the last of q", 0, 1, 0, 2, 1, 6, 7, 1);
        copied("4: all of p", 1, 0, 0, 2, 3, 1, 2, 6, 7, 8);
        copied("4: none", 0, 1, 0, 0, 0, 6, 7, 8);
        copied("4: none, behind the last of both", 0, 1, 5, 3, 0, 6, 7, 8);
        copied("4: as they were, one ROW, up", 0, 0, 0, 1, 4, 1, 1, 2, 3, 4);
        copied("4: as they were, one ROW, down", 0, 0, 1, 0, 4, 2, 3, 4, 5, 5);
        copied("4: one ROW, to where they are", 0, 0, 0, 0, 5, 1, 2, 3, 4, 5);
        AlwaysAhead x = new AlwaysAhead();
        x.row(0, 3, 40);
        x.row(1, 3, 40);
        x.set(0, 39, Long.MIN_VALUE);
        Due.is("4: 40 elements", x.copy(0, 1, 0, 0, 40), 40);
        Due.is("4: the 40th", x.element(1, 39), Long.MIN_VALUE);
        x.row(2, 0, 0);
        Due.is("4: a ROW of no elements", x.copy(2, 2, 0, 0, 0), 0);
        for (int sort = 0; sort < 5; sort++) {
            AlwaysAhead y = new AlwaysAhead();
            y.row(0, sort, 1);
            y.row(1, sort, 1);
            y.set(0, 0, -1);
            Due.is("4: SORT " + sort, y.copy(0, 1, 0, 0, 1), 1);
            Due.is("4: SORT " + sort, y.element(1, 0), sort == 4 ? 1 : -1);
        }
    }

    private static void copyRefused() {
        for (int bad : NO_SHELVES) {
            Edge.refused("4: BAD SHELF p " + bad, Edge::busy, x -> x.copy(bad, 4, 0, 0, 1), -2);
            Edge.refused("4: BAD SHELF q " + bad, Edge::busy, x -> x.copy(0, bad, 0, 0, 1), -2);
        }
        Edge.refused("4: BAD SHELF q comes ahead of OTHER", Edge::busy, x -> x.copy(2, 8, 0, 0, 1), -2);
        Edge.refused("4: BAD SHELF p comes ahead of OTHER", Edge::busy, x -> x.copy(8, 2, 0, 0, 1), -2);
        Edge.refused("4: BAD SHELF q comes ahead of NOTHING", Edge::busy, x -> x.copy(3, -1, 0, 0, 1), -2);
        Edge.refused("4: OTHER, p", Edge::busy, x -> x.copy(2, 0, 0, 0, 1), -3);
        Edge.refused("4: OTHER, q", Edge::busy, x -> x.copy(0, 2, 0, 0, 1), -3);
        Edge.refused("4: OTHER, both", Edge::busy, x -> x.copy(2, 2, 0, 0, 0), -3);
        Edge.refused("4: OTHER, two SORTS", Edge::busy, x -> x.copy(0, 1, 0, 0, 1), -3);
        Edge.refused("4: OTHER, two SORTS, no elements", Edge::busy, x -> x.copy(6, 1, 0, 0, 0), -3);
        Edge.refused("4: OTHER comes ahead of NOTHING, p", Edge::busy, x -> x.copy(2, 3, 0, 0, 1), -3);
        Edge.refused("4: OTHER comes ahead of NOTHING, q", Edge::busy, x -> x.copy(3, 2, 0, 0, 1), -3);
        Edge.refused("4: OTHER comes ahead of BAD i", Edge::busy, x -> x.copy(2, 0, -1, 0, 1), -3);
        Edge.refused("4: two SORTS come ahead of BAD n", Edge::busy, x -> x.copy(0, 1, 0, 0, -1), -3);
        Edge.refused("4: two SORTS only if both hold something, p", Edge::busy, x -> x.copy(3, 1, 0, 0, 1), -4);
        Edge.refused("4: two SORTS only if both hold something, q", Edge::busy, x -> x.copy(0, 3, 0, 0, 1), -4);
        Edge.refused("4: NOTHING, both", Edge::busy, x -> x.copy(3, 5, 0, 0, 0), -4);
        Edge.refused("4: NOTHING comes ahead of BAD n", Edge::busy, x -> x.copy(0, 3, 0, 0, -1), -4);
        for (int bad : new int[] {-1, 4, MIN, MAX}) {
            Edge.refused("4: BAD i " + bad, Edge::busy, x -> x.copy(0, 4, bad, 0, 1), -2);
        }
        for (int bad : new int[] {-1, 5, MIN, MAX}) {
            Edge.refused("4: BAD j " + bad, Edge::busy, x -> x.copy(0, 4, 0, bad, 1), -2);
        }
        for (int bad : new int[] {-1, 5, MIN, MAX}) {
            Edge.refused("4: BAD n " + bad, Edge::busy, x -> x.copy(0, 4, 0, 0, bad), -2);
        }
        Edge.refused("4: BAD n, too many from i on", Edge::busy, x -> x.copy(0, 4, 2, 0, 3), -2);
        Edge.refused("4: BAD n, too many from j on", Edge::busy, x -> x.copy(0, 4, 0, 2, 4), -2);
        Edge.refused("4: i and n together beyond an int", Edge::busy, x -> x.copy(0, 4, 1, 0, MAX), -2);
        Edge.refused("4: j and n together beyond an int", Edge::busy, x -> x.copy(0, 4, 0, 1, MAX), -2);
        Edge.refused("4: i and n both beyond", Edge::busy, x -> x.copy(0, 4, MAX, MAX, MAX), -2);
        Edge.refused("4: i and n both below", Edge::busy, x -> x.copy(0, 4, MIN, MIN, MIN), -2);
        Edge.refused("4: a ROW of no elements", Edge::busy, x -> x.copy(6, 0, 0, 0, 1), -2);
        Edge.refused("4: to a ROW of no elements", Edge::busy, x -> x.copy(0, 6, 0, 0, 1), -2);
    }

    private static void element() {
        Edge.answers("5: the first", Edge::busy, x -> x.element(0, 0), 1);
        Edge.answers("5: the last", Edge::busy, x -> x.element(0, 3), 7);
        for (int none : new int[] {-1, 4, 39, 40, MIN, MAX}) {
            Edge.answers("5: none, nothing is refused: " + none, Edge::busy, x -> x.element(0, none), 0);
        }
        Edge.answers("5: none, a ROW of no elements", Edge::busy, x -> x.element(6, 0), 0);
        Edge.answers("5: no ROW, a DRAWING", Edge::busy, x -> x.element(2, 0), 0);
        Edge.answers("5: no ROW, NOTHING", Edge::busy, x -> x.element(3, 0), 0);
        for (int bad : NO_SHELVES) {
            Edge.answers("5: no ROW, no SHELF " + bad, Edge::busy, x -> x.element(bad, 0), 0);
        }
        AlwaysAhead x = new AlwaysAhead();
        Due.row(x, 0, 5);
        x.drawing(0, 1, 1);
        Due.is("5: no ROW where one was", x.element(0, 0), 0);
    }

    private static void holds() {
        Edge.answers("6: NONE, NOTHING", Edge::busy, x -> x.holds(3), -1);
        for (int bad : NO_SHELVES) {
            Edge.answers("6: NONE, no SHELF " + bad, Edge::busy, x -> x.holds(bad), -1);
        }
        for (int number = 0; number < 5; number++) {
            int sort = number;
            Edge.answers("6: a ROW by its SORT", x -> x.row(7, sort, 0), x -> x.holds(7), sort);
        }
        for (int number = 1; number <= 6; number++) {
            int kind = number;
            Edge.answers("6: 10 and the KIND", x -> x.drawing(0, kind, 0), x -> x.holds(0), 10 + kind);
        }
    }

    private static void drawing() {
        for (int bad : NO_SHELVES) {
            Edge.refused("7: BAD SHELF " + bad, Edge::busy, x -> x.drawing(bad, 1, 1), -2);
        }
        for (int bad : new int[] {-1, 0, 7, MIN, MAX}) {
            Edge.refused("7: KINDS 1 to 6: " + bad, Edge::busy, x -> x.drawing(2, bad, 1), -2);
        }
        for (int bad : new int[] {-1, 10, MIN, MAX}) {
            Edge.refused("7: by 0 to 9: " + bad, Edge::busy, x -> x.drawing(2, 1, bad), -2);
        }
        for (int kind = 1; kind <= 6; kind++) {
            for (int a = 0; a <= 9; a++) {
                AlwaysAhead x = new AlwaysAhead();
                int s = (kind + a) % 8;
                Due.is("7: KIND " + kind + " by " + a, x.drawing(s, kind, a), 1);
                Due.is("7: its KIND", x.holds(s), 10 + kind);
                Due.is("7: its a", x.says(s, 0), a);
                Due.is("7: no other SHELF", x.status(9), 1);
            }
        }
        AlwaysAhead x = new AlwaysAhead();
        Due.row(x, 0, 1, 2);
        Due.is("7: a DRAWING where a ROW was", x.drawing(0, 3, 2), 1);
        Due.is("7: it holds the DRAWING alone", x.holds(0), 13);
        Due.is("7: it holds no ROW", x.set(0, 0, 1), -3);
        Due.is("7: a DRAWING where one was", x.drawing(0, 4, 0), 1);
        Due.is("7: its a is new", x.says(0, 0), 0);
    }

    private static void saysRefused() {
        for (int bad : NO_SHELVES) {
            Edge.refused("8: BAD SHELF " + bad, Edge::busy, x -> x.says(bad, 1), -2);
            Edge.refused("8: BAD KIND " + bad, Edge::busy, x -> x.says(2, bad == 8 ? 7 : bad), -2);
        }
        Edge.refused("8: BAD KIND comes ahead of OTHER", Edge::busy, x -> x.says(0, 7), -2);
        Edge.refused("8: BAD KIND comes ahead of NOTHING", Edge::busy, x -> x.says(3, 7), -2);
        for (int number = 0; number <= 6; number++) {
            int kind = number;
            Edge.refused("8: OTHER, a ROW, KIND " + kind, Edge::busy, x -> x.says(0, kind), -3);
            Edge.refused("8: NOTHING, KIND " + kind, Edge::busy, x -> x.says(3, kind), -4);
        }
        int[] above = {-1, 0, 1, 2, 2, 2, 1};
        for (int own = 1; own <= 6; own++) {
            for (int wanted = 0; wanted <= 6; wanted++) {
                int up = own;
                while (up > 0 && up != wanted) {
                    up = above[up];
                }
                int kind = own;
                int as = wanted;
                if (up != wanted) {
                    Edge.refused("8: OTHER, KIND " + own + " is not under " + wanted,
                            x -> x.drawing(2, kind, 3), x -> x.says(2, as), -3);
                } else {
                    Edge.Call call = x -> x.says(2, as) >= 0 ? 1 : 0;
                    Edge.answers("8: KIND " + own + " is under " + wanted, x -> x.drawing(2, kind, 3), call, 1);
                }
            }
        }
    }

    private static int said(AlwaysAhead x, int kind, int a, int as) {
        x.drawing(7, kind, a);
        return x.says(7, as);
    }

    /** By their own KIND, whatever they are taken for: ABAA, BAAA; shaken AABA and AAAB, too. */
    private static void saysByKinds() {
        AlwaysAhead x = new AlwaysAhead();
        x.heap(1, 1);
        x.heap(2, 0);
        int[] due = {0, 2, 0, 0, 2, 0, 4};
        int[][] taken = {{}, {1}, {1, 2}, {1, 2, 3}, {1, 2, 4}, {1, 2, 5}, {1, 6}};
        for (int kind = 1; kind <= 6; kind++) {
            for (int as : taken[kind]) {
                Due.is("8: KIND " + kind + " says by its own KIND, as " + as, said(x, kind, 1, as), due[kind]);
            }
            Due.is("8: KIND " + kind + " as a DRAWING says its a", said(x, kind, 9, 0), 9);
        }
        for (int kind = 1; kind <= 6; kind++) {
            x.again();
            int before = said(x, kind, 1, kind);
            x.read(false);
            x.fact(1, 0, 24);
            Due.is("8: whatever is READ or remembered, KIND " + kind, said(x, kind, 1, kind), before);
            x.forget(0);
        }
    }

    private static AlwaysAhead drum(int... slips) {
        AlwaysAhead x = new AlwaysAhead();
        for (int i = 0; i + 1 < slips.length; i += 2) {
            x.heap(slips[i], slips[i + 1]);
        }
        return x;
    }

    private static void saysOfSmallDrums() {
        for (int kind = 1; kind <= 6; kind++) {
            for (int a = 0; a <= 9; a += 9) {
                String what = "8: KIND " + kind + " by " + a;
                Due.is(what + ", no HEAPS", said(drum(), kind, a, kind), kind == 6 ? 0 : 1);
                Due.is(what + ", A alone", said(drum(1, 0), kind, a, kind), 1);
                Due.is(what + ", B alone", said(drum(0, 1), kind, a, kind), 0);
                Due.is(what + ", 24 for A", said(drum(9, 0, 9, 0, 6, 0), kind, a, kind), 1);
                Due.is(what + ", 24 for B", said(drum(0, 9, 0, 9, 0, 6), kind, a, kind), 0);
            }
        }
        AlwaysAhead x = new AlwaysAhead();
        x.drawing(0, 2, 1);
        x.heap(2, 1);
        Due.is("8: AAB", x.says(0, 2), 1);
        x.heap(0, 2);
        Due.is("8: of the drum as it is now", x.says(0, 2), 0);
    }

    private static void saysOfEveryKind() {
        // AAB, ABA, BAA: just as far is not ahead
        Due.is("8: SHAKEN, a more than 1 times b", said(drum(2, 1), 1, 1, 1), 1);
        Due.is("8: SHAKEN, a just 2 times b in the end", said(drum(2, 1), 1, 2, 1), 0);
        Due.is("8: SHAKEN, by 0 A comes first", said(drum(2, 1), 1, 0, 1), 2);
        Due.is("8: SHAKEN, 9 to 1 by 8", said(drum(9, 1), 1, 8, 1), 1);
        Due.is("8: SHAKEN, 9 to 1 by 9", said(drum(9, 1), 1, 9, 1), 0);
        Due.is("8: SHAKEN, two heaps are one", said(drum(0, 1, 2, 0), 1, 1, 1), 1);
        Due.is("8: HEAPED, two heaps are two", said(drum(0, 1, 2, 0), 2, 1, 2), 0);
        AlwaysAhead swapped = drum(0, 1, 2, 0);
        swapped.swap(0, 1);
        Due.is("8: HEAPED, by ORDER", said(swapped, 2, 1, 2), 1);
        Due.is("8: HEAPED, 10 to 1 by 9", said(drum(9, 0, 1, 1), 2, 9, 2), 1);
        // BA, AB
        Due.is("8: TWOS, n 2, by 0", said(drum(1, 1), 3, 0, 3), 2);
        Due.is("8: TWOS, n 2, by 1", said(drum(1, 1), 3, 1, 3), 0);
        Due.is("8: TWOS, n 1 is the end", said(drum(0, 1), 3, 0, 3), 0);
        Due.is("8: TWOS, n 1 is the end, A", said(drum(1, 0), 3, 9, 3), 1);
        // AAB: 2 to 0, then 2 to 1 in the end
        Due.is("8: TWOS, n 3, at the end too", said(drum(2, 0, 0, 1), 3, 2, 3), 0);
        Due.is("8: TWOS, n 3, at the end", said(drum(2, 0, 0, 1), 3, 1, 3), 1);
        // BAAA: at 2 level, at 4 ahead; ABAA: the same; AABA, AAAB: ahead at both
        Due.is("8: TWOS, not after the first slip", said(drum(3, 1), 3, 1, 3), 2);
        // AABA: 2 to 0, 2 to 1, 3 to 1; AAAB: 3 to 0, 3 to 1
        Due.is("8: TWOS, not after the third slip", said(drum(3, 1), 3, 2, 3), 2);
        Due.is("8: BACK, AAB reads BAA", said(drum(2, 0, 0, 1), 4, 0, 4), 0);
        Due.is("8: BACK, BAA reads AAB", said(drum(0, 1, 2, 0), 4, 1, 4), 1);
        Due.is("8: BACK, just 2 times b", said(drum(0, 1, 2, 0), 4, 2, 4), 0);
        // AAB is sure at 2, ABA and BAA at 3
        Due.is("8: SURELY, not behind the MOMENT at which it is SURE", said(drum(2, 1), 5, 2, 5), 1);
        Due.is("8: SURELY, at that MOMENT too", said(drum(2, 1), 5, 1, 5), 1);
        // ABBBA: sure for B at 4, by 0 ahead all along; by 1 not at 2
        Due.is("8: SURELY, B is sure, by 0", said(drum(1, 0, 0, 3, 1, 0), 5, 0, 5), 1);
        Due.is("8: SURELY, B is sure, by 1", said(drum(1, 0, 0, 3, 1, 0), 5, 1, 5), 0);
        // AABB: never sure but at n, and level there
        Due.is("8: SURELY, both the same, to n", said(drum(2, 0, 0, 2), 5, 1, 5), 0);
        Due.is("8: SURELY, both the same, by 0", said(drum(2, 0, 0, 2), 5, 0, 5), 1);
        Due.is("8: ONCE, at MOMENT 1", said(drum(1, 2), 6, 9, 6), 1);
        Due.is("8: ONCE, at MOMENT n", said(drum(2, 1), 6, 1, 6), 3);
        Due.is("8: ONCE, just as far is not ahead", said(drum(1, 1), 6, 1, 6), 1);
        Due.is("8: ONCE, all slips in one heap", said(drum(0, 1, 1, 0), 6, 1, 6), 1);
        Due.is("8: 24 slips SHAKEN", said(drum(9, 3, 3, 9), 6, 0, 6), 2704156);
    }
}
