/** Promises 38 to 50: each edge that the document names of told ROWS, ORDERS, BOOKS, DRAWS and what is kept. */
public final class Edges38to50Test {
    private static final int MIN = Integer.MIN_VALUE;
    private static final int MAX = Integer.MAX_VALUE;
    private static final int[] NO_SHELVES = {-1, 8, MIN, MAX};
    private static final int TIMES = 1103515245;

    public static void main(String[] args) {
        judgeRefused();
        judge();
        judgeFacts();
        toldRefused();
        told();
        luck();
        order();
        lost();
        booksRefused();
        books();
        unlike();
        draw();
        evening();
        seed();
        image();
        back();
        status();
        Due.end("Edges38to50Test");
    }

    private static AlwaysAhead drum(int... slips) {
        AlwaysAhead x = new AlwaysAhead();
        for (int i = 0; i + 1 < slips.length; i += 2) {
            x.heap(slips[i], slips[i + 1]);
        }
        return x;
    }

    private static AlwaysAhead read(AlwaysAhead x, String slips) {
        for (char slip : slips.toCharArray()) {
            x.read(slip == 'a');
        }
        return x;
    }

    private static AlwaysAhead with(AlwaysAhead x, int kind, int t, int v) {
        x.fact(kind, t, v);
        return x;
    }

    /** A ROW of longs: a is A, b is B, anything else is no slip. */
    private static void tell(AlwaysAhead x, int s, String slips) {
        x.row(s, 3, slips.length());
        for (int i = 0; i < slips.length(); i++) {
            x.set(s, i, slips.charAt(i) == 'a' ? 1 : slips.charAt(i) == 'b' ? 0 : 2);
        }
    }

    // ---- told ROWS ----

    private static void judgeRefused() {
        for (int bad : NO_SHELVES) {
            Edge.refused("38: BAD " + bad, Edge::busy, x -> x.judge(bad), -2);
        }
        Edge.refused("38: OTHER", Edge::busy, x -> x.judge(2), -3);
        Edge.refused("38: NOTHING", Edge::busy, x -> x.judge(3), -4);
    }

    private static void judged(String what, AlwaysAhead x, String slips, int due) {
        tell(x, 0, slips);
        Due.is("38: " + what + ": " + slips, x.judge(0), due);
        Due.is("38: nothing is refused", x.status(12) + x.status(15), 0);
    }

    private static void judge() {
        judged("no HEAPS, no elements", drum(), "", -1);
        judged("no HEAPS: beyond n", drum(), "a", 0);
        judged("no elements", drum(1, 2), "", -1);
        judged("it ends ahead of n", drum(1, 2), "b", -1);
        judged("of n", drum(1, 2), "bab", -1);
        judged("beyond n", drum(1, 2), "baba", 3);
        judged("beyond n, no slip", drum(1, 2), "bab?", 3);
        judged("no such slip left: A", drum(1, 2), "aa", 1);
        judged("no such slip left: B", drum(1, 2), "bbb", 2);
        judged("no such slip at all", drum(1, 0), "b", 0);
        judged("in the HEAP drawn then alone", drum(1, 1, 1, 1), "aa", 1);
        judged("in the HEAP drawn then alone", drum(1, 1, 0, 2), "aba", 2);
        judged("the next HEAP is drawn", drum(1, 1, 2, 0), "abaa", -1);
        AlwaysAhead swapped = drum(1, 0, 0, 1);
        swapped.swap(0, 1);
        judged("by ORDER", swapped, "ba", -1);
        judged("by ORDER", swapped, "ab", 0);
        judged("no slip at first", drum(2, 2), "?a", 0);
        judged("no slip at the end", drum(2, 2), "abb?", 3);
        judged("no slip, neither A nor B", drum(2, 2), "aa?", 2);
        judged("no slip, neither A nor B", drum(2, 2), "bb?", 2);
        judged("the first of several", drum(1, 1), "aa?a", 1);
        judged("not as READ", read(drum(2, 2), "ab"), "b", 0);
        judged("not as READ", read(drum(2, 2), "ab"), "aa", 1);
        judged("as READ, less", read(drum(2, 2), "ab"), "a", -1);
        judged("as READ, more", read(drum(2, 2), "ab"), "abba", -1);
        judged("not as READ at the last", read(drum(1, 1), "ab"), "ba", 0);
        judged("24 slips", drum(9, 9, 3, 3), "abababababababababababab", -1);
        judged("a 25th", drum(9, 9, 3, 3), "ababababababababababababa", 24);
        long[] noSlips = {2, -1, 256, 1L << 32, (1L << 32) + 1, Long.MIN_VALUE, Long.MAX_VALUE};
        for (long value : noSlips) {
            AlwaysAhead x = drum(2, 2);
            x.row(0, 3, 1);
            x.set(0, 0, value);
            Due.is("38: no slip: " + value, x.judge(0), 0);
        }
        for (int sort = 0; sort < 5; sort++) {
            AlwaysAhead x = drum(1, 1);
            x.row(0, sort, 2);
            Due.is("38: SORT " + sort + ", BB", x.judge(0), 1);
            x.set(0, 1, 1);
            Due.is("38: SORT " + sort + ", BA", x.judge(0), -1);
            x.set(0, 1, 3);
            Due.is("38: SORT " + sort + ", what is no slip (of booleans: A)", x.judge(0), sort == 4 ? -1 : 1);
        }
        AlwaysAhead x = drum(1, 1);
        x.row(0, 0, 40);
        Due.is("38: 40 elements", x.judge(0), 1);
    }

    private static void judgeFacts() {
        judged("AT doesn't hold at the MOMENT behind it", with(drum(2, 2), 0, 1, 0), "ab", 0);
        judged("AT doesn't hold", with(drum(2, 2), 0, 4, 1), "abab", 3);
        judged("AT holds", with(drum(2, 2), 0, 4, 2), "abab", -1);
        judged("AT that can't hold later isn't looked at", with(drum(2, 2), 0, 2, 0), "a", -1);
        judged("AT of MOMENT 0 holds", with(drum(2, 2), 0, 0, 0), "a", -1);
        judged("AT of MOMENT 0: with the first", with(drum(2, 2), 0, 0, 1), "a", 0);
        judged("AT of MOMENT 0: there is no first", with(drum(2, 2), 0, 0, 1), "", -1);
        judged("AT beyond n", with(drum(2, 2), 0, 5, 0), "abab", -1);
        judged("AHEAD at MOMENT 0: with the first", with(drum(2, 2), 1, 0, 0), "a", 0);
        judged("AHEAD, level isn't", with(drum(2, 2), 1, 1, 2), "ab", 1);
        judged("AHEAD from a later MOMENT on", with(drum(2, 2), 1, 2, 3), "ba", 1);
        judged("AHEAD to beyond n", with(drum(2, 2), 1, 4, 24), "abab", 3);
        judged("AHEAD behind its last MOMENT", with(drum(2, 2), 1, 1, 1), "abba", -1);
        judged("LEVEL", with(drum(2, 2), 2, 2, 0), "aa", 1);
        judged("LEVEL holds", with(drum(2, 2), 2, 2, 0), "ba", -1);
        judged("LEVEL at MOMENT 0 holds", with(drum(2, 2), 2, 0, 0), "b", -1);
        judged("LEVEL at an odd MOMENT", with(drum(2, 2), 2, 1, 0), "b", 0);
        judged("NEVER", with(drum(2, 2), 3, 1, 4), "abb", 2);
        judged("NEVER, level is not below 0", with(drum(2, 2), 3, 0, 4), "abab", -1);
        judged("NEVER of MOMENTS before", with(drum(2, 2), 3, 2, 2), "ba", -1);
        AlwaysAhead x = with(with(drum(2, 2), 0, 3, 2), 2, 2, 0);
        x.fact(0, 4, 2);
        x.fact(3, 1, 1);
        judged("the first place, not the first FACT", x, "ba", 0);
        judged("one of four FACTS", x, "abb", 2);
        judged("all of four FACTS", x, "abab", -1);
    }

    private static void toldRefused() {
        for (int bad : NO_SHELVES) {
            Edge.refused("39: BAD SHELF " + bad, Edge::busy, x -> x.told(bad, 0), -2);
            Edge.refused("40: BAD " + bad, Edge::busy, x -> x.luck(bad), -2);
        }
        for (int bad : new int[] {-1, 3, MIN, MAX}) {
            Edge.refused("39: BAD what " + bad, x -> tell(x, 0, ""), x -> x.told(0, bad), -2);
            Edge.refused("39: BAD what comes ahead of OTHER", Edge::busy, x -> x.told(2, bad), -2);
            Edge.refused("39: BAD what comes ahead of NOTHING", Edge::busy, x -> x.told(3, bad), -2);
            Edge.refused("39: BAD what comes ahead of STUCK", Edge::busy, x -> x.told(0, bad), -2);
        }
        Edge.Call[] calls = {x -> x.told(2, 0), x -> x.told(2, 1), x -> x.told(2, 2), x -> x.luck(2)};
        for (int i = 0; i < 4; i++) {
            String promise = i == 3 ? "40: " : "39: ";
            Edge.Call call = calls[i];
            Edge.Made heaps = x -> {
                x.heap(2, 1);
                x.heap(1, 1);
            };
            Edge.refused(promise + "OTHER", Edge::busy, call, -3);
            Edge.refused(promise + "NOTHING", heaps, call, -4);
            String[] cant = {"aba", "abaa", "ababab", "", "aaaba", "ab?ab", "abbab", "abaaa"};
            for (String slips : cant) {
                Edge.refused(promise + "STUCK: it isn't of n, or can't be: " + slips, x -> {
                    heaps.make(x);
                    tell(x, 2, slips);
                }, call, -5);
            }
            Edge.refused(promise + "STUCK: it isn't as READ", x -> {
                heaps.make(x);
                read(x, "b");
                tell(x, 2, "abaab");
            }, call, -5);
            Edge.refused(promise + "STUCK: a FACT doesn't hold", x -> {
                heaps.make(x);
                x.fact(0, 5, 2);
                tell(x, 2, "abaab");
            }, call, -5);
            Edge.refused(promise + "STUCK: a FACT of MOMENT 0 doesn't hold", x -> {
                heaps.make(x);
                x.fact(1, 0, 0);
                tell(x, 2, "abaab");
            }, call, -5);
            Edge.refused(promise + "STUCK: no HEAPS, but an element", x -> tell(x, 2, "a"), call, -5);
        }
    }

    private static void tells(String what, AlwaysAhead x, String slips, int... due) {
        tell(x, 0, slips);
        for (int i = 0; i < 3; i++) {
            Due.is("39: " + what + ": told(0, " + i + ") of " + slips, x.told(0, i), due[i]);
        }
    }

    private static void told() {
        tells("no HEAPS", drum(), "", 0, 0, 0);
        tells("level is not ahead", drum(1, 1), "ab", 1, 1, 1);
        tells("behind, the greatest LEAD is that of MOMENT 0", drum(1, 1), "ba", 0, 1, 0);
        tells("never level behind MOMENT 0", drum(1, 0), "a", 1, 0, 1);
        tells("behind all along", drum(0, 3), "bbb", 0, 0, 0);
        tells("the greatest LEAD at MOMENT n", drum(3, 1), "baaa", 2, 1, 2);
        tells("24 for A", drum(9, 0, 9, 0, 6, 0), "a".repeat(24), 24, 0, 24);
        tells("24 for B", drum(0, 9, 0, 9, 0, 6), "b".repeat(24), 0, 0, 0);
        tells("level 12 times", drum(3, 3, 3, 3, 3, 3, 3, 3), "ab".repeat(12), 12, 12, 1);
        tells("all READ", read(drum(2, 1), "aba"), "aba", 2, 1, 1);
        tells("a FACT holds", with(drum(2, 1), 2, 2, 0), "aba", 2, 1, 1);
    }

    private static void lucky(String what, AlwaysAhead x, String slips, int due) {
        tell(x, 0, slips);
        Due.is("40: " + what + ": " + slips, x.luck(0), due);
    }

    private static void luck() {
        lucky("no HEAPS", drum(), "", 1);
        // AABB 3, ABAB 2, ABBA 1, BAAB 1, BABA 0, BBAA 0
        lucky("the most: itself alone", drum(2, 2), "aabb", 1);
        lucky("at least as many", drum(2, 2), "abab", 2);
        lucky("as many counts", drum(2, 2), "abba", 4);
        lucky("as many counts", drum(2, 2), "baab", 4);
        lucky("never ahead: all", drum(2, 2), "bbaa", 6);
        lucky("of those that FIT", read(drum(2, 2), "ab"), "abba", 2);
        lucky("of those that FIT", with(drum(2, 2), 2, 2, 0), "baba", 4);
        lucky("all READ", read(drum(2, 2), "bbaa"), "bbaa", 1);
        lucky("24 for A", drum(9, 0, 9, 0, 6, 0), "a".repeat(24), 1);
        lucky("24 for B", drum(0, 9, 0, 9, 0, 6), "b".repeat(24), 1);
        lucky("all of 160000", drum(3, 3, 3, 3, 3, 3, 3, 3), "ba".repeat(12), 160000);
    }

    // ---- ORDERS, LOST slips ----

    private static void ordered(String what, AlwaysAhead x, boolean most, int... due) {
        for (int i = 0; i < due.length; i++) {
            Due.is("41: " + what + ", place " + i, x.order(most, i), due[i]);
        }
    }

    private static void order() {
        for (int bad : new int[] {-1, 3, 4, MIN, MAX}) {
            Edge.refused("41: no such place " + bad, Edge::busy, x -> x.order(true, bad), -2);
            Edge.refused("41: no such place " + bad, Edge::busy, x -> x.order(false, bad), -2);
        }
        Edge.refused("41: no HEAPS", Edge::empty, x -> x.order(true, 0), -2);
        Edge.refused("41: no HEAPS", Edge::empty, x -> x.order(false, 0), -2);
        ordered("one HEAP, most", drum(1, 1), true, 0);
        ordered("one HEAP, least", drum(1, 1), false, 0);
        ordered("most", drum(0, 1, 2, 0), true, 1, 0);
        ordered("least", drum(2, 0, 0, 1), false, 1, 0);
        AlwaysAhead alike = drum(1, 1, 1, 1, 1, 1, 1, 1);
        alike.swap(0, 3);
        ordered("of several the first row of HEAPS, most", alike, true, 0, 1, 2, 3);
        ordered("of several the first row of HEAPS, least", alike, false, 0, 1, 2, 3);
        // B alone is never ahead, in whatever ORDER
        ordered("SPENT 0 by all", drum(0, 1, 0, 2, 0, 3), true, 0, 1, 2);
        ordered("SPENT 0 by all", drum(0, 1, 0, 2, 0, 3), false, 0, 1, 2);
        // AAAABBBBB is ahead at 7 MOMENTS, as AAABABBBB is; BABBBBAAA at none, as others are
        ordered("four HEAPS, most", drum(0, 4, 0, 1, 1, 0, 3, 0), true, 2, 3, 0, 1);
        ordered("four HEAPS, least", drum(3, 0, 1, 0, 0, 1, 0, 4), false, 2, 1, 3, 0);
        AlwaysAhead read = drum(0, 1, 2, 0);
        read.fact(1, 0, 0);
        read.read(false);
        ordered("nothing being READ nor remembered", read, true, 1, 0);
        ordered("nothing being READ nor remembered", read, false, 0, 1);
        Edge.answers("41: ORDER itself stays", Edge::reading, x -> x.order(true, 0), 1);
        Edge.answers("41: ORDER itself stays", Edge::busy, x -> x.order(false, 2), 1);
    }

    private static void lost() {
        for (int bad : new int[] {-1, 21, MIN, MAX}) {
            Edge.refused("42: BAD " + bad, Edge::busy, x -> x.lost(bad), -2);
        }
        Edge.answers("42: no HEAPS, none lost", Edge::empty, x -> x.lost(0), 0);
        Edge.answers("42: no HEAPS, one lost", Edge::empty, x -> x.lost(1), 1);
        Edge.answers("42: no HEAPS, two lost: AA", Edge::empty, x -> x.lost(2), 1);
        Edge.answers("42: no HEAPS, 20 lost", Edge::empty, x -> x.lost(20), 431910);
        Due.is("42: both the same in the drum", drum(3, 3).lost(3), 4);
        Due.is("42: A has one more, none lost", drum(2, 1).lost(0), 0);
        Due.is("42: A has one more, one lost: level is not more", drum(2, 1).lost(1), 1);
        Due.is("42: B has one more, one lost", drum(1, 2).lost(1), 1);
        Due.is("42: A has two more, one lost", drum(3, 1).lost(1), 0);
        Due.is("42: A has two more, two lost", drum(3, 1).lost(2), 1);
        Due.is("42: B has two more, three lost", drum(1, 3).lost(3), 1);
        Due.is("42: B has two more, four lost", drum(1, 3).lost(4), 5);
        Due.is("42: 20 more, 20 lost", drum(9, 0, 9, 0, 2, 0).lost(20), 1);
        Due.is("42: 20 more, 19 lost", drum(0, 9, 0, 9, 0, 2).lost(19), 0);
        Due.is("42: 21 more, 20 lost", drum(9, 0, 9, 0, 3, 0).lost(20), 0);
        Due.is("42: 24 more, 20 lost", drum(0, 9, 0, 9, 0, 6).lost(20), 0);
        Due.is("42: one more, 20 lost", drum(1, 0).lost(20), (1 << 19) - 184756 / 2);
        Due.is("42: slips of the drum, not those READ", read(drum(2, 1), "b").lost(1), 1);
    }

    // ---- BOOKS ----

    private static void booksRefused() {
        // n is 8: a ROW of 8 in SHELF 7
        Edge.Made busy = x -> {
            Edge.busy(x);
            tell(x, 7, "????????");
        };
        for (int i = 0; i < 2; i++) {
            boolean isBooks = i == 0;
            String promise = isBooks ? "43: " : "44: ";
            for (int bad : NO_SHELVES) {
                refuses(promise + "BAD SHELF p " + bad, busy, isBooks, bad, 7, -2);
                refuses(promise + "BAD SHELF q " + bad, busy, isBooks, 7, bad, -2);
            }
            refuses(promise + "BAD SHELF comes ahead of OTHER", busy, isBooks, 2, 8, -2);
            refuses(promise + "BAD SHELF comes ahead of OTHER", busy, isBooks, 8, 2, -2);
            refuses(promise + "BAD SHELF comes ahead of NOTHING", busy, isBooks, 3, -1, -2);
            refuses(promise + "OTHER, p", busy, isBooks, 2, 7, -3);
            refuses(promise + "OTHER, q", busy, isBooks, 7, 2, -3);
            refuses(promise + "OTHER comes ahead of NOTHING", busy, isBooks, 2, 3, -3);
            refuses(promise + "OTHER comes ahead of NOTHING", busy, isBooks, 3, 2, -3);
            refuses(promise + "OTHER comes ahead of BAD", busy, isBooks, 0, 2, -3);
            refuses(promise + "NOTHING, p", busy, isBooks, 3, 7, -4);
            refuses(promise + "NOTHING, q", busy, isBooks, 7, 3, -4);
            refuses(promise + "NOTHING comes ahead of BAD", busy, isBooks, 0, 3, -4);
            refuses(promise + "NOTHING comes ahead of BAD", busy, isBooks, 3, 0, -4);
            refuses(promise + "BAD: p is not of n", busy, isBooks, 0, 7, -2);
            refuses(promise + "BAD: q is not of n", busy, isBooks, 7, 0, -2);
            refuses(promise + "BAD: both alike are not of n", busy, isBooks, 0, 0, -2);
            refuses(promise + "BAD: no elements", busy, isBooks, 6, 7, -2);
            for (String slips : new String[] {"?", "???"}) {
                refuses(promise + "BAD: one too few, or too many", x -> {
                    x.heap(1, 1);
                    tell(x, 0, slips);
                }, isBooks, 0, 0, -2);
            }
            refuses(promise + "BAD: no HEAPS, but an element", x -> tell(x, 0, "?"), isBooks, 0, 0, -2);
        }
    }

    private static void refuses(String what, Edge.Made made, boolean isBooks, int p, int q, int due) {
        Edge.refused(what, made, x -> isBooks ? x.books(p, q) : x.unlike(p, q), due);
    }

    private static void told(String what, AlwaysAhead x, String p, String q, int agree, int unlike) {
        tell(x, 0, p);
        tell(x, 1, q);
        Due.is("43: " + what + ": " + p + " and " + q, x.books(0, 1), agree);
        Due.is("43: the other way round", x.books(1, 0), agree);
        Due.is("44: " + what + ": " + p + " and " + q, x.unlike(0, 1), unlike);
        Due.is("44: the other way round", x.unlike(1, 0), unlike);
    }

    private static void books() {
        told("no HEAPS", drum(), "", "", 1, -1);
        told("nothing seen", drum(2, 2), "????", "????", 6, -1);
        told("all seen by one", drum(2, 2), "abab", "????", 1, -1);
        told("all seen by both", drum(2, 2), "abab", "abab", 1, -1);
        told("each sees something", drum(2, 2), "a???", "???b", 2, -1);
        told("it can't be: three A", drum(2, 2), "aa??", "??a?", 0, -1);
        told("it can't be: three B", drum(2, 2), "bb??", "??b?", 0, -1);
        told("by HEAPS", drum(1, 1, 1, 1), "aa??", "????", 0, -1);
        told("by HEAPS", drum(1, 1, 1, 1), "a?a?", "????", 1, -1);
        AlwaysAhead swapped = drum(2, 0, 0, 2);
        swapped.swap(0, 1);
        told("by ORDER", swapped, "b???", "???a", 1, -1);
        told("by ORDER", swapped, "a???", "????", 0, -1);
        told("whatever is READ", read(drum(1, 1), "a"), "b?", "??", 1, -1);
        told("whatever is remembered", with(drum(1, 1), 1, 0, 24), "??", "??", 2, -1);
        told("24 slips", drum(9, 9, 3, 3), "?".repeat(24), "?".repeat(24), 972400, -1);
        long[] unseen = {2, -1, 1L << 32, (1L << 32) + 1, Long.MIN_VALUE};
        for (long value : unseen) {
            AlwaysAhead x = drum(1, 1);
            tell(x, 0, "ab");
            x.row(1, 3, 2);
            x.set(1, 0, value);
            x.set(1, 1, value);
            Due.is("43: not seen: " + value, x.books(1, 1), 2);
            Due.is("44: not seen: " + value, x.unlike(0, 1), -1);
        }
        AlwaysAhead x = drum(1, 1);
        x.row(0, 0, 2);
        x.row(1, 4, 2);
        x.set(0, 0, 257);
        x.set(1, 0, 5);
        Due.is("43: two SORTS", x.books(0, 1), 1);
        Due.is("44: two SORTS", x.unlike(0, 1), -1);
    }

    private static void unlike() {
        told("at the first", drum(2, 2), "abab", "bbab", 0, 0);
        told("at the last", drum(2, 2), "abab", "abaa", 0, 3);
        told("the first of several", drum(2, 2), "?bab", "?aba", 0, 1);
        told("what is not seen is not unlike", drum(2, 2), "?b?b", "a?a?", 1, -1);
        told("what can't be is not unlike", drum(2, 2), "aaaa", "aaaa", 0, -1);
        told("at the 24th", drum(9, 9, 3, 3), "?".repeat(23) + "a", "?".repeat(23) + "b", 0, 23);
        AlwaysAhead x = drum(1, 1);
        tell(x, 5, "ab");
        Due.is("43: one book twice", x.books(5, 5), 1);
        Due.is("44: one book twice", x.unlike(5, 5), -1);
    }

    // ---- BY DRAWS ----

    /** The SEED behind which a DRAW makes that one. */
    private static int seedAhead(int next) {
        int inverse = TIMES;
        for (int i = 0; i < 5; i++) {
            inverse *= 2 - TIMES * inverse;
        }
        return (next - 12345) * inverse;
    }

    private static void drawn(String what, AlwaysAhead x, int next, int due) {
        x.seed(seedAhead(next));
        Due.is("45: " + what, x.draw(), due);
        Due.is("45: " + what + ", SEED", x.status(8), next);
        Due.is("45: " + what + ", it is READ", x.slip(x.status(2) - 1), due);
    }

    private static void draw() {
        Edge.refused("45: STUCK: no HEAPS", Edge::empty, AlwaysAhead::draw, -5);
        Edge.refused("45: STUCK: all are READ", x -> {
            x.heap(1, 1);
            read(x, "ab");
        }, AlwaysAhead::draw, -5);
        drawn("below how many are A's: A", drum(2, 1), 1 << 16, 1);
        drawn("just as many as are A's: B", drum(2, 1), 2 << 16, 0);
        drawn("modulo how many are left", drum(2, 1), 3 << 16, 1);
        drawn("the lower bits don't count", drum(2, 1), (1 << 16) + 65535, 1);
        drawn("the lower bits don't count", drum(2, 1), (2 << 16) + 1, 0);
        // 32768 modulo 3 is 2
        drawn("no sign", drum(2, 1), MIN, 0);
        // 65535 modulo 4 is 3; with a sign it would be -1
        drawn("no sign", drum(3, 1), -1, 0);
        // 32767 modulo 4 is 3
        drawn("upper 16 bits, the greatest with a sign", drum(3, 1), MAX, 0);
        drawn("0", drum(1, 9), 0, 1);
        drawn("A alone", drum(1, 0), -1, 1);
        drawn("B alone", drum(0, 1), 0, 0);
        drawn("of the HEAP drawn then alone", drum(1, 1, 9, 0), 1 << 16, 0);
        drawn("of the HEAP drawn then alone", drum(1, 1, 9, 0), 2 << 16, 1);
        drawn("of the next HEAP", read(drum(1, 1, 1, 2), "ab"), 4 << 16, 0);
        drawn("of those left", read(drum(2, 1), "a"), 1 << 16, 0);
        drawn("of those left", read(drum(2, 1), "a"), 2 << 16, 1);
        drawn("the last of 24", read(drum(3, 3, 3, 3, 3, 3, 3, 3), "ab".repeat(11) + "b"), 1 << 16, 1);
        AlwaysAhead swapped = drum(1, 0, 0, 1);
        swapped.swap(0, 1);
        drawn("by ORDER", swapped, 0, 0);
        drawn("whatever is remembered", with(drum(1, 1), 1, 0, 24), 1 << 16, 0);
    }

    private static int evenings(AlwaysAhead x, String slips) {
        int ahead = x.evening();
        for (int i = 0; i < slips.length(); i++) {
            Due.is("46: slip " + i + " of " + slips, x.slip(i), slips.charAt(i) == 'a' ? 1 : 0);
        }
        Due.is("46: all are READ", x.status(2), x.status(1));
        return ahead;
    }

    private static void evening() {
        Edge.answers("46: no HEAPS", Edge::empty, AlwaysAhead::evening, 0);
        Edge.answers("46: none are left", x -> {
            x.heap(2, 1);
            read(x, "aba");
        }, AlwaysAhead::evening, 2);
        Due.is("46: A alone", evenings(drum(3, 0), "aaa"), 3);
        Due.is("46: 24 for A", evenings(drum(9, 0, 9, 0, 6, 0), "a".repeat(24)), 24);
        Due.is("46: 24 for B", evenings(drum(0, 9, 0, 9, 0, 6), "b".repeat(24)), 0);
        Due.is("46: MOMENT 0 and level ones are not ahead", evenings(drum(0, 2, 3, 0), "bbaaa"), 1);
        Due.is("46: the whole evening, what was READ too", evenings(read(drum(2, 0, 0, 3), "aa"), "aabbb"), 3);
        Edge.comesTo("46: slips left BY DRAWS", Edge::reading, AlwaysAhead::evening, 0, x -> {
            for (int i = 0; i < 7; i++) {
                x.draw();
            }
        });
        Edge.comesTo("46: 24 slips BY DRAWS", Edge::full, x -> Math.min(0, x.evening()), 0, x -> {
            for (int i = 0; i < 24; i++) {
                x.draw();
            }
        });
    }

    private static void seed() {
        Edge.comesTo("47: the one ahead", Edge::busy, x -> x.seed(78), 77, x -> x.seed(78));
        int[] seeds = {0, -1, 1, MIN, MAX, 12345};
        for (int v : seeds) {
            AlwaysAhead x = drum(1, 0);
            Due.is("47: 1 at first", x.seed(v), 1);
            Due.is("47: " + v, x.status(8), v);
            x.draw();
            Due.is("47: times, and 12345, wrapping: " + v, x.seed(0), (int) ((long) v * TIMES + 12345));
        }
        AlwaysAhead x = drum(1, 1);
        x.draw();
        x.draw();
        Due.is("47: from 1, two DRAWS", x.seed(5), -1770082073);
        x.again();
        Due.is("47: again lays slips back, not SEED", x.status(8), 5);
    }

    // ---- what is kept ----

    private static void image() {
        AlwaysAhead x = new AlwaysAhead();
        Due.is("48: of nothing", x.image(), 1);
        Edge.busy(x);
        x.image();
        Due.is("48: it is kept while all goes on", x.back(), 1);
        Due.is("48: nothing has changed", x.status(1), 8);
        Edge.comesTo("48: the newest is kept", Edge::busy, AlwaysAhead::image, 1, y -> {
            y.image();
            y.image();
        });
        AlwaysAhead z = drum(1, 1);
        z.image();
        z.read(true);
        z.image();
        z.again();
        z.back();
        Due.is("48: the newest is kept", z.status(2), 1);
    }

    private static void back() {
        Edge.refused("49: STUCK: nothing was kept", x -> {
            x.heap(2, 1);
            x.read(true);
        }, AlwaysAhead::back, -5);
        AlwaysAhead x = new AlwaysAhead();
        Edge.reading(x);
        x.set(3, 0, 0);
        Due.is("49: as it was kept", x.back(), 1);
        Due.is("49: HEAPS", x.status(0), 1);
        Due.is("49: n", x.status(1), 3);
        Due.is("49: READ", x.status(2), 1);
        Due.is("49: the slip", x.slip(0), 1);
        Due.is("49: FACTS", x.status(3), 1);
        Due.is("49: the FACT", x.factOf(0, 0) * 100 + x.factOf(0, 1) * 10 + x.factOf(0, 2), 11);
        Due.is("49: ORDER", x.heapOf(0, 2), 0);
        Due.is("49: A slips", x.status(4), 1);
        Due.is("49: A slips READ", x.status(6), 1);
        Due.is("49: SEED", x.status(8), 5);
        Due.is("49: THE TAPE isn't kept", x.status(7), 10);
        Due.is("49: SHELVES aren't kept", x.status(9), 5);
        Due.is("49: REFUSALS aren't kept", x.status(14), 1);
        x.read(false);
        x.seed(1);
        Due.is("49: once more", x.back(), 1);
        Due.is("49: once more, READ", x.status(2), 1);
        Due.is("49: once more, SEED", x.status(8), 5);
        AlwaysAhead y = new AlwaysAhead();
        y.image();
        Edge.full(y);
        read(y, "abab");
        Due.is("49: to nothing", y.back(), 1);
        Due.is("49: to nothing", y.status(0) + y.status(1) + y.status(2) + y.status(3), 0);
        Due.is("49: there is room again", y.heap(9, 9), 0);
        Due.is("49: there is room again", y.fact(0, 0, 0), 0);
        AlwaysAhead z = drum(1, 0, 0, 1);
        z.image();
        z.swap(0, 1);
        z.back();
        Due.is("49: ORDER as it was kept", z.heapOf(0, 2), 0);
        AlwaysAhead full = new AlwaysAhead();
        Edge.full(full);
        read(full, "ab".repeat(12));
        full.image();
        full.again();
        read(full, "ba".repeat(12));
        for (int i = 0; i < 4; i++) {
            full.forget(0);
        }
        full.back();
        Due.is("49: 24 slips READ", full.status(2), 24);
        Due.is("49: the 24th", full.slip(23), 0);
        Due.is("49: the fourth FACT", full.factOf(3, 1), 24);
    }

    private static void status() {
        for (int another : new int[] {-1, 11, 17, 18, 100, MIN, MAX, MIN + 16}) {
            Edge.answers("50: NONE another what: " + another, Edge::busy, x -> x.status(another), -1);
        }
        int[] due = {3, 8, 1, 2, 3, 5, 0, 10, 77, 5, 2};
        for (int number = 0; number <= 10; number++) {
            int what = number;
            Edge.answers("50: status(" + what + ")", Edge::reading, x -> x.status(what), due[what]);
        }
        AlwaysAhead x = new AlwaysAhead();
        x.heap(1, 1);
        x.heap(0, 1);
        x.swap(0, 1);
        Due.is("50: the HEAP drawn now, by ORDER", x.status(10), 1);
        x.read(false);
        Due.is("50: the next one, as soon as all of it is READ", x.status(10), 0);
        x.read(true);
        Due.is("50: the same, while a slip of it is left", x.status(10), 0);
        Due.is("50: A slips READ", x.status(6), 1);
        x.read(false);
        Due.is("50: NONE: all are READ", x.status(10), -1);
        Due.is("50: NONE: no HEAPS", new AlwaysAhead().status(10), -1);
        AlwaysAhead full = new AlwaysAhead();
        for (int s = 0; s < 8; s++) {
            full.drawing(s, 1, 1);
            full.row(s, 0, 0);
        }
        Due.is("50: SHELVES that hold something", full.status(9), 8);
        refusals();
    }

    private static void refusals() {
        AlwaysAhead x = new AlwaysAhead();
        x.drawing(0, 1, 1);
        Edge.Call[] calls = {y -> y.heap(0, 0), y -> y.set(0, 0, 0), y -> y.set(1, 0, 0), AlwaysAhead::draw,
            y -> y.fact(0, 0, 0)};
        for (int i = 0; i < 4; i++) {
            x.fact(0, 0, 0);
        }
        for (int number = -2; number >= -6; number--) {
            for (int i = 0; i < -number; i++) {
                Due.is("50: REFUSAL " + number, calls[-2 - number].on(x), number);
            }
        }
        for (int number = -2; number >= -6; number--) {
            Due.is("50: how many of " + number, x.status(10 - number), -number);
        }
        x.again();
        x.wipe();
        x.image();
        x.back();
        Due.is("50: they stay", x.status(12) + x.status(13) + x.status(14) + x.status(15) + x.status(16), 20);
        x.drum();
        Due.is("50: a FAULT is BAD", x.status(12), 3);
    }
}
