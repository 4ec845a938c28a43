/** Promises 18 to 37: each edge that the document names of ROWS, of what is READ, and of heads. */
public final class Edges18to37Test {
    private static final int MIN = Integer.MIN_VALUE;
    private static final int MAX = Integer.MAX_VALUE;
    private static final int[] NOT_TO_24 = {-1, 25, MIN, MAX};
    private static final int[] NOT_TO_9 = {-1, 10, MIN, MAX};

    public static void main(String[] args) {
        rowsAndWays();
        read();
        slip();
        again();
        lead();
        ahead();
        never();
        level();
        last();
        greatest();
        sure();
        soFar();
        spent();
        mean();
        price();
        often();
        half();
        isSure();
        head();
        Due.end("Edges18to37Test");
    }

    private static AlwaysAhead drum(int... slips) {
        AlwaysAhead x = new AlwaysAhead();
        for (int i = 0; i + 1 < slips.length; i += 2) {
            x.heap(slips[i], slips[i + 1]);
        }
        return x;
    }

    private static AlwaysAhead read(AlwaysAhead x, String slips) {
        for (char slip : slips.toCharArray()) {
            x.read(slip == 'a');
        }
        return x;
    }

    private static AlwaysAhead with(AlwaysAhead x, int kind, int t, int v) {
        x.fact(kind, t, v);
        return x;
    }

    private static AlwaysAhead allA() {
        return drum(9, 0, 9, 0, 6, 0);
    }

    private static AlwaysAhead allB() {
        return drum(0, 9, 0, 9, 0, 6);
    }

    /** 24 slips, 12 for each, in four HEAPS: 160000 ROWS. */
    private static AlwaysAhead level24() {
        return drum(3, 3, 3, 3, 3, 3, 3, 3);
    }

    private static void rowsAndWays() {
        Edge.answers("18: no HEAPS: 1", Edge::empty, AlwaysAhead::rows, 1);
        Edge.answers("19: no HEAPS", Edge::empty, AlwaysAhead::ways, 1);
        Due.is("18: one slip", drum(1, 0).rows(), 1);
        Due.is("18: A alone, 24", allA().rows(), 1);
        Due.is("18: B alone, 24", allB().rows(), 1);
        Due.is("18: the greatest drum", drum(9, 9, 3, 3).rows(), 972400);
        Due.is("18: HEAPS come one after the other", drum(1, 1, 1, 1).rows(), 4);
        Due.is("18: 24 slips in four HEAPS", level24().rows(), 160000);
        Edge.answers("18: whatever is remembered", Edge::noWays, AlwaysAhead::rows, 9);
        Edge.answers("18: whatever is READ", Edge::reading, AlwaysAhead::rows, 9);
        Edge.answers("19: none FIT", Edge::noWays, AlwaysAhead::ways, 0);
        Edge.answers("19: those that FIT", Edge::busy, AlwaysAhead::ways, 3);
        Due.is("19: all FIT, 24 slips", drum(9, 9, 3, 3).ways(), 972400);
        Due.is("19: one slip READ", read(drum(2, 1), "b").ways(), 1);
        Due.is("19: all READ", read(drum(2, 2), "abab").ways(), 1);
        Due.is("19: all READ, but a FACT doesn't hold", with(read(drum(2, 2), "abab"), 0, 2, 2).ways(), 0);
        Due.is("19: all FACTS hold", with(with(drum(2, 2), 0, 1, 1), 2, 2, 0).ways(), 2);
        Due.is("19: two FACTS that can't be together", with(with(drum(2, 2), 0, 1, 1), 0, 1, 0).ways(), 0);
        AlwaysAhead x = with(drum(2, 2), 0, 1, 1);
        x.fact(2, 2, 0);
        x.fact(0, 3, 1);
        x.fact(1, 0, 0);
        Due.is("19: the fourth FACT doesn't hold", x.ways(), 0);
        x.forget(3);
        Due.is("19: three of them do", x.ways(), 1);
    }

    private static void read() {
        Edge.refused("20: no HEAPS", Edge::empty, x -> x.read(true), -5);
        Edge.refused("20: no HEAPS", Edge::empty, x -> x.read(false), -5);
        Edge.refused("20: no A in the HEAP drawn now", Edge::busy, x -> x.read(true), -5);
        Edge.refused("20: no A in the HEAP drawn now", Edge::reading, x -> x.read(true), -5);
        Edge.Made oneOfEach = x -> {
            x.heap(1, 1);
            x.heap(1, 1);
        };
        Edge.refused("20: no A left, though the next HEAP has one", x -> {
            oneOfEach.make(x);
            x.read(true);
        }, x -> x.read(true), -5);
        Edge.refused("20: no B left, though the next HEAP has one", x -> {
            oneOfEach.make(x);
            x.read(false);
        }, x -> x.read(false), -5);
        for (int number = 0; number < 2; number++) {
            boolean isA = number == 1;
            Edge.refused("20: all are READ", x -> {
                oneOfEach.make(x);
                read(x, "abba");
            }, x -> x.read(isA), -5);
        }
        AlwaysAhead x = level24();
        for (int i = 0; i < 24; i++) {
            Due.is("20: how many are READ", x.read(i % 2 == 0), i + 1);
        }
        Due.is("20: a 25th", x.read(true), -5);
        Due.is("20: a 25th", x.read(false), -5);
        AlwaysAhead y = with(drum(1, 1), 1, 0, 24);
        Due.is("20: whatever is remembered", y.read(false), 1);
        AlwaysAhead z = drum(1, 0, 0, 1);
        z.swap(0, 1);
        Due.is("20: by ORDER", z.read(true), -5);
        Due.is("20: by ORDER", z.read(false), 1);
    }

    private static void slip() {
        for (int bad : new int[] {-1, 1, 2, 24, MIN, MAX}) {
            Edge.refused("21: BAD " + bad, Edge::reading, x -> x.slip(bad), -2);
        }
        Edge.refused("21: nothing is READ", Edge::busy, x -> x.slip(0), -2);
        Edge.refused("21: no HEAPS", Edge::empty, x -> x.slip(0), -2);
        AlwaysAhead x = read(level24(), "aaabbbbbbaaaabababbaabab");
        Due.is("21: all are READ", x.status(2), 24);
        Due.is("21: from 0 on: A is 1", x.slip(0), 1);
        Due.is("21: B is 0", x.slip(3), 0);
        Due.is("21: the last", x.slip(23), 0);
        Due.is("21: the last but one", x.slip(22), 1);
        Due.is("21: behind the last", x.slip(24), -2);
        x.again();
        Due.is("21: laid back", x.slip(0), -2);
    }

    private static void again() {
        Edge.answers("22: none were READ", Edge::busy, AlwaysAhead::again, 0);
        Edge.answers("22: no HEAPS", Edge::empty, AlwaysAhead::again, 0);
        Edge.comesTo("22: all is laid back, and nothing else changes", Edge::busy, x -> {
            read(x, "bbaabbab");
            return x.again();
        }, 8, x -> { });
        AlwaysAhead x = read(drum(1, 1), "ab");
        x.again();
        Due.is("22: n stays", x.status(1), 2);
        Due.is("22: no A is READ", x.status(6), 0);
        Due.is("22: the first HEAP is drawn", x.status(10), 0);
        Due.is("22: all slips are there again", x.read(false) + x.read(true), 3);
    }

    private static void lead() {
        Edge.answers("23: no HEAPS", Edge::empty, AlwaysAhead::lead, 0);
        Edge.answers("23: none READ", Edge::busy, AlwaysAhead::lead, 0);
        Edge.answers("23: behind", Edge::reading, AlwaysAhead::lead, -1);
        Due.is("23: ahead", read(drum(2, 1), "aa").lead(), 2);
        Due.is("23: level", read(drum(2, 1), "ab").lead(), 0);
        Due.is("23: all A", read(allA(), "a".repeat(24)).lead(), 24);
        Due.is("23: all B", read(allB(), "b".repeat(24)).lead(), -24);
    }

    private static void ahead() {
        for (int bad : NOT_TO_9) {
            Edge.refused("24: BAD " + bad, Edge::busy, x -> x.ahead(bad), -2);
        }
        for (int number = 0; number <= 9; number++) {
            int k = number;
            Edge.answers("24: no HEAPS, by " + k, Edge::empty, x -> x.ahead(k), 1);
            Edge.answers("24: none FIT, by " + k, Edge::noWays, x -> x.ahead(k), 0);
            Due.is("24: 24 for A, by " + k, allA().ahead(k), 1);
            Due.is("24: 24 for B, by " + k, allB().ahead(k), 0);
        }
        Due.is("24: MOMENT 0 doesn't count", drum(1, 0).ahead(0), 1);
        Due.is("24: by 0, A comes first", drum(2, 2).ahead(0), 3);
        Due.is("24: level is not ahead", drum(2, 2).ahead(1), 0);
        Due.is("24: at MOMENT n too", drum(2, 1).ahead(2), 0);
        Due.is("24: at MOMENT 1 too", drum(2, 1).ahead(1), 1);
        Due.is("24: more than 8 times", drum(9, 1).ahead(8), 1);
        Due.is("24: just 9 times", drum(9, 1).ahead(9), 0);
        // A nine times, then AB; not BA, being just 9 times as far behind B
        Due.is("24: more than 9 times", drum(9, 0, 1, 1).ahead(9), 1);
        Due.is("24: of those that FIT", read(drum(2, 1), "ab").ahead(0), 1);
        Due.is("24: of those that FIT", with(drum(2, 1), 2, 2, 0).ahead(1), 0);
    }

    private static void never() {
        Edge.answers("25: no HEAPS", Edge::empty, AlwaysAhead::never, 1);
        Edge.answers("25: none FIT", Edge::noWays, AlwaysAhead::never, 0);
        Due.is("25: level is not below 0", drum(1, 1).never(), 1);
        Due.is("25: 24 for A", allA().never(), 1);
        Due.is("25: 24 for B", allB().never(), 0);
        Due.is("25: at MOMENT 1 too", drum(0, 1, 2, 0).never(), 0);
        Due.is("25: at MOMENT n too", drum(1, 0, 0, 2).never(), 0);
        Due.is("25: AABB, ABAB", drum(2, 2).never(), 2);
        Due.is("25: of those that FIT", read(drum(2, 2), "ab").never(), 1);
        Due.is("25: behind already", read(drum(2, 2), "b").never(), 0);
    }

    private static void level() {
        for (int bad : NOT_TO_24) {
            Edge.refused("26: BAD " + bad, Edge::busy, x -> x.level(bad), -2);
        }
        for (int number = 0; number <= 24; number++) {
            int m = number;
            Edge.answers("26: no HEAPS, " + m, Edge::empty, x -> x.level(m), m == 0 ? 1 : 0);
            Edge.answers("26: none FIT, " + m, Edge::noWays, x -> x.level(m), 0);
            Due.is("26: never level, " + m, allA().level(m), m == 0 ? 1 : 0);
        }
        Due.is("26: MOMENT 0 doesn't count", drum(1, 0).level(1), 0);
        Due.is("26: MOMENT n counts", drum(1, 1).level(1), 2);
        Due.is("26: just m of them", drum(2, 2).level(1), 2);
        Due.is("26: just m of them", drum(2, 2).level(2), 4);
        Due.is("26: at none", drum(2, 1).level(0), 1);
        // in each of the four HEAPS AB or BA, three times
        Due.is("26: 12 at most", level24().level(12), 4096);
        // each HEAP level at its end alone: AAABBB, AABABB, and the same with A for B
        Due.is("26: 4 at least", level24().level(4), 256);
        Due.is("26: not 3", level24().level(3), 0);
        Due.is("26: not 13", level24().level(13), 0);
        Due.is("26: not 24", level24().level(24), 0);
        Due.is("26: of those that FIT", read(drum(2, 2), "aa").level(1), 1);
    }

    private static void last() {
        for (int bad : NOT_TO_24) {
            Edge.refused("27: BAD " + bad, Edge::busy, x -> x.last(bad), -2);
        }
        for (int number = 0; number <= 24; number++) {
            int t = number;
            Edge.answers("27: no HEAPS, " + t, Edge::empty, x -> x.last(t), t == 0 ? 1 : 0);
            Edge.answers("27: none FIT, " + t, Edge::noWays, x -> x.last(t), 0);
            Due.is("27: 0: at none of 1 to n, " + t, allB().last(t), t == 0 ? 1 : 0);
            Due.is("27: at MOMENT 24, " + t, level24().last(t), t == 24 ? 160000 : 0);
        }
        // AAB, ABA, BAA
        Due.is("27: 0: at none", drum(2, 1).last(0), 1);
        Due.is("27: not at 1", drum(2, 1).last(1), 0);
        Due.is("27: the last at which it is", drum(2, 1).last(2), 2);
        Due.is("27: beyond n", drum(2, 1).last(4), 0);
        Due.is("27: ABAB is level at 2, but not last", drum(2, 2).last(2), 0);
        Due.is("27: at n", drum(2, 2).last(4), 6);
        Due.is("27: of those that FIT", read(drum(2, 1), "b").last(2), 1);
    }

    private static void greatest() {
        for (int bad : NOT_TO_24) {
            Edge.refused("28: BAD " + bad, Edge::busy, x -> x.greatest(bad), -2);
        }
        for (int number = 0; number <= 24; number++) {
            int g = number;
            Edge.answers("28: no HEAPS, " + g, Edge::empty, x -> x.greatest(g), g == 0 ? 1 : 0);
            Edge.answers("28: none FIT, " + g, Edge::noWays, x -> x.greatest(g), 0);
            Due.is("28: 24 for A, " + g, allA().greatest(g), g == 24 ? 1 : 0);
            Due.is("28: MOMENT 0 counts, " + g, allB().greatest(g), g == 0 ? 1 : 0);
        }
        // BA, AB
        Due.is("28: behind, then level", drum(1, 1).greatest(0), 1);
        Due.is("28: ahead at MOMENT 1", drum(1, 1).greatest(1), 1);
        Due.is("28: at MOMENT n", drum(0, 1, 3, 0).greatest(2), 1);
        Due.is("28: beyond n", drum(2, 1).greatest(4), 0);
        Due.is("28: of those that FIT", read(drum(2, 1), "ab").greatest(1), 1);
    }

    private static void sure() {
        for (int bad : NOT_TO_24) {
            Edge.refused("29: BAD " + bad, Edge::busy, x -> x.sure(bad), -2);
        }
        for (int number = 0; number <= 24; number++) {
            int t = number;
            Edge.answers("29: no HEAPS, " + t, Edge::empty, x -> x.sure(t), t == 0 ? 1 : 0);
            Edge.answers("29: none FIT, " + t, Edge::noWays, x -> x.sure(t), 0);
            Due.is("29: 24 for A, " + t, allA().sure(t), t == 13 ? 1 : 0);
            Due.is("29: 24 for B, " + t, allB().sure(t), t == 13 ? 1 : 0);
            Due.is("29: both have the same in the end: n, " + t, level24().sure(t), t == 24 ? 160000 : 0);
        }
        Due.is("29: one slip", drum(1, 0).sure(1), 1);
        Due.is("29: not at MOMENT 0", drum(1, 0).sure(0), 0);
        // AAAB: at 2 those left can bring them level
        Due.is("29: just as many are left", drum(3, 0, 0, 1).sure(2), 0);
        Due.is("29: less are left", drum(3, 0, 0, 1).sure(3), 1);
        Due.is("29: B is sure", drum(0, 3, 1, 0).sure(3), 1);
        // AB, BA: nobody has more; at n
        Due.is("29: both the same", drum(1, 1).sure(2), 2);
        Due.is("29: both the same, not before", drum(1, 1).sure(1), 0);
        Due.is("29: beyond n", drum(2, 1).sure(4), 0);
        Due.is("29: the first MOMENT alone", drum(2, 0, 0, 1).sure(3), 0);
        Due.is("29: of those that FIT", read(drum(2, 1), "b").sure(3), 1);
    }

    private static void soFar() {
        for (int bad : NOT_TO_24) {
            Edge.refused("30: BAD t " + bad, Edge::busy, x -> x.soFar(bad, 0), -2);
            Edge.refused("30: BAD a " + bad, Edge::busy, x -> x.soFar(0, bad), -2);
            Edge.refused("30: BAD both " + bad, Edge::busy, x -> x.soFar(bad, bad), -2);
        }
        Edge.answers("30: no HEAPS, MOMENT 0", Edge::empty, x -> x.soFar(0, 0), 1);
        Edge.answers("30: no HEAPS, a 1", Edge::empty, x -> x.soFar(0, 1), 0);
        Edge.answers("30: no HEAPS, MOMENT 1", Edge::empty, x -> x.soFar(1, 0), 0);
        Edge.answers("30: no HEAPS, MOMENT 24", Edge::empty, x -> x.soFar(24, 24), 0);
        Edge.answers("30: none FIT", Edge::noWays, x -> x.soFar(0, 0), 0);
        Due.is("30: MOMENT 0", drum(2, 1).soFar(0, 0), 3);
        Due.is("30: MOMENT 0, a 1", drum(2, 1).soFar(0, 1), 0);
        Due.is("30: MOMENT n", drum(2, 1).soFar(3, 2), 3);
        Due.is("30: MOMENT n, too few", drum(2, 1).soFar(3, 1), 0);
        Due.is("30: MOMENT n, too many", drum(2, 1).soFar(3, 3), 0);
        Due.is("30: more than t", drum(2, 1).soFar(1, 2), 0);
        Due.is("30: beyond n", drum(2, 1).soFar(4, 2), 0);
        Due.is("30: beyond n", drum(2, 1).soFar(24, 2), 0);
        Due.is("30: 24 for A", allA().soFar(24, 24), 1);
        Due.is("30: 24 for B", allB().soFar(24, 0), 1);
        Due.is("30: 24 and 24", level24().soFar(24, 24), 0);
        Due.is("30: of those that FIT", read(drum(2, 1), "a").soFar(2, 1), 1);
    }

    private static void spent() {
        Edge.answers("31: no HEAPS", Edge::empty, AlwaysAhead::spent, 0);
        Edge.answers("31: none FIT", Edge::noWays, AlwaysAhead::spent, 0);
        Due.is("31: level is not ahead", drum(1, 1).spent(), 1);
        Due.is("31: MOMENT 0 is not ahead", drum(1, 0).spent(), 1);
        Due.is("31: 24 for A", allA().spent(), 24);
        Due.is("31: 24 for B", allB().spent(), 0);
        Due.is("31: of those that FIT", read(drum(2, 1), "a").spent(), 5);
        // with A for B each ROW is one of the same drum
        AlwaysAhead x = drum(9, 9, 3, 3);
        long level = 0;
        for (int m = 0; m <= 24; m++) {
            level += (long) m * x.level(m);
        }
        Due.is("31: the greatest drum: ahead as often as behind", 2 * x.spent() + level, 24L * 972400);
    }

    private static void mean() {
        Edge.answers("32: no HEAPS", Edge::empty, AlwaysAhead::mean, 0);
        Edge.answers("32: none FIT", Edge::noWays, AlwaysAhead::mean, 0);
        Due.is("32: one slip", drum(0, 1).mean(), 1);
        Due.is("32: both the same: n each", level24().mean(), 24L * 160000);
        Due.is("32: the greatest drum", drum(9, 9, 3, 3).mean(), 24L * 972400);
        Due.is("32: 24 for A", allA().mean(), 13);
        Due.is("32: of those that FIT", read(drum(2, 1), "aa").mean(), 2);
    }

    private static void price() {
        for (int bad : NOT_TO_9) {
            Edge.refused("33: BAD " + bad, Edge::busy, x -> x.price(bad), -2);
            Edge.refused("33: BAD comes ahead of STUCK: " + bad, Edge::noWays, x -> x.price(bad), -2);
        }
        for (int number = 0; number <= 9; number++) {
            int k = number;
            Edge.refused("33: STUCK: WAYS are 0, by " + k, Edge::noWays, x -> x.price(k), -5);
            Edge.answers("33: no HEAPS, by " + k, Edge::empty, x -> x.price(k), 1000);
            Due.is("33: all, by " + k, allA().price(k), 1000);
            Due.is("33: none, by " + k, allB().price(k), 0);
        }
        Due.is("33: 2 of 3, cut", drum(2, 1).price(0), 666);
        Due.is("33: 1 of 3, cut", drum(2, 1).price(1), 333);
        // A has the first of 18 slips in half of 972400
        Due.is("33: the greatest drum", drum(9, 9, 3, 3).price(0), 500);
        Due.is("33: by WAYS, not by ROWS", read(drum(2, 1), "a").price(1), 500);
    }

    private static void often() {
        Edge.answers("34: no HEAPS", Edge::empty, AlwaysAhead::often, 0);
        Edge.answers("34: none FIT: the least", Edge::noWays, AlwaysAhead::often, 0);
        // AAAB, AABA: never; ABAA, BAAA: once
        Due.is("34: of several the least", drum(3, 1).often(), 0);
        Due.is("34: most", drum(2, 1).often(), 1);
        // AABB, BBAA once; four of them twice
        Due.is("34: most", drum(2, 2).often(), 2);
        // level at 2, 4, 6 and 8, all of them
        Due.is("34: the only m", drum(1, 1, 1, 1, 1, 1, 1, 1).often(), 4);
        Due.is("34: of those that FIT", read(drum(2, 1), "aa").often(), 0);
        Due.is("34: of those that FIT", read(drum(2, 2), "a").often(), 2);
    }

    private static void half() {
        Edge.answers("35: no HEAPS", Edge::empty, AlwaysAhead::half, 0);
        Edge.refused("35: STUCK: WAYS are 0", Edge::noWays, AlwaysAhead::half, -5);
        // AAAB at 3, AABA at 4
        Due.is("35: just half of them", read(drum(3, 1), "aa").half(), 3);
        // AAB at 2, ABA and BAA at 3
        Due.is("35: less than half of them", drum(2, 1).half(), 3);
        Due.is("35: all at once", allA().half(), 13);
        Due.is("35: both the same", level24().half(), 24);
        Due.is("35: of those that FIT", read(drum(2, 1), "aa").half(), 2);
    }

    private static void isSure() {
        Edge.answers("36: no HEAPS", Edge::empty, AlwaysAhead::isSure, 1);
        Edge.answers("36: none READ", Edge::busy, AlwaysAhead::isSure, 0);
        Due.is("36: none of one READ", drum(1, 0).isSure(), 0);
        Due.is("36: one of one READ", read(drum(1, 0), "a").isSure(), 1);
        Due.is("36: just as many are left", read(drum(3, 1), "aa").isSure(), 0);
        Due.is("36: less are left", read(drum(3, 1), "aaa").isSure(), 1);
        Due.is("36: B, just as many are left", read(drum(1, 3), "bb").isSure(), 0);
        Due.is("36: B, less are left", read(drum(1, 3), "bbb").isSure(), 1);
        Due.is("36: it stays sure", read(drum(2, 1), "aab").isSure(), 1);
        Due.is("36: both the same, one left", read(drum(2, 2), "aab").isSure(), 0);
        Due.is("36: both the same, all READ", read(drum(2, 2), "aabb").isSure(), 1);
        Due.is("36: by what is READ, not by the slips there are", drum(9, 1).isSure(), 0);
        Due.is("36: by what is READ, not by FACTS", with(drum(2, 1), 0, 2, 2).isSure(), 0);
        Due.is("36: 12 of 24", read(allB(), "b".repeat(12)).isSure(), 0);
        Due.is("36: 13 of 24", read(allB(), "b".repeat(13)).isSure(), 1);
    }

    private static void head() {
        Edge.refused("37: STUCK: NOTHING", Edge::empty, AlwaysAhead::head, -5);
        Edge.refused("37: STUCK: ROWS alone", x -> {
            x.heap(2, 1);
            for (int s = 0; s < 8; s++) {
                x.row(s, s % 5, 3);
            }
        }, AlwaysAhead::head, -5);
        for (int number = 0; number < 8; number++) {
            int s = number;
            Edge.answers("37: the only one, that says 0", x -> {
                x.heap(0, 1);
                x.drawing(s, 2, 1);
            }, AlwaysAhead::head, s);
        }
        Edge.answers("37: of several the first", x -> {
            x.heap(2, 1);
            x.row(0, 0, 3);
            for (int s = 1; s < 8; s++) {
                x.drawing(s, 1, 1);
            }
        }, AlwaysAhead::head, 1);
        Edge.answers("37: the last says most", x -> {
            x.heap(2, 1);
            for (int s = 0; s < 7; s++) {
                x.drawing(s, 1, 1);
            }
            x.drawing(7, 1, 0);
        }, AlwaysAhead::head, 7);
        Edge.answers("37: says, not its a", x -> {
            x.heap(2, 1);
            x.drawing(0, 1, 9);
            x.drawing(1, 1, 1);
        }, AlwaysAhead::head, 1);
        Edge.answers("37: by its own KIND", x -> {
            x.heap(2, 1);
            x.drawing(0, 1, 2);
            x.drawing(1, 2, 2);
            x.drawing(2, 5, 2);
        }, AlwaysAhead::head, 2);
        Edge.answers("37: of several that say 0 the first", Edge::busy, AlwaysAhead::head, 2);
    }
}
