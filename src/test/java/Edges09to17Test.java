/** Promises 9 to 14, 16 and 17: each edge that the document names of HEAPS, FACTS, ORDER, THE TAPE's bytes. */
public final class Edges09to17Test {
    private static final int MIN = Integer.MIN_VALUE;
    private static final int MAX = Integer.MAX_VALUE;

    public static void main(String[] args) {
        heap();
        heapRefused();
        fact();
        factsOfOneMoment();
        factsFromTo();
        forget();
        swap();
        feed();
        wipe();
        heapOf();
        factOf();
        Due.end("Edges09to17Test");
    }

    private static AlwaysAhead drum(int... slips) {
        AlwaysAhead x = new AlwaysAhead();
        for (int i = 0; i + 1 < slips.length; i += 2) {
            x.heap(slips[i], slips[i + 1]);
        }
        return x;
    }

    private static void heap() {
        int[][] edges = {{0, 1}, {1, 0}, {0, 9}, {9, 0}, {9, 9}};
        for (int[] edge : edges) {
            AlwaysAhead x = new AlwaysAhead();
            String what = "9: " + edge[0] + " and " + edge[1];
            Due.is(what, x.heap(edge[0], edge[1]), 0);
            Due.is(what + ", A slips", x.heapOf(0, 0), edge[0]);
            Due.is(what + ", B slips", x.heapOf(0, 1), edge[1]);
            Due.is(what + ", n", x.status(1), edge[0] + edge[1]);
        }
        AlwaysAhead x = new AlwaysAhead();
        for (int number = 0; number < 4; number++) {
            Due.is("9: numbers are 0 on", x.heap(3, 3), number);
            Due.is("9: a new one last", x.heapOf(number, 2), number);
        }
        Due.is("9: 4 HEAPS", x.status(0), 4);
        Due.is("9: 24 slips all together", x.status(1), 24);
        AlwaysAhead y = drum(1, 0, 1, 0, 1, 0);
        y.swap(0, 2);
        y.swap(1, 2);
        Due.is("9: a new one behind others that changed places", y.heap(0, 1), 3);
        Due.is("9: a new one last", y.heapOf(3, 2), 3);
        Due.is("9: the others stay", y.heapOf(0, 2) * 100 + y.heapOf(1, 2) * 10 + y.heapOf(2, 2), 120);
        AlwaysAhead z = drum(1, 1);
        z.read(true);
        z.again();
        Due.is("9: nothing is READ any more", z.heap(1, 1), 1);
    }

    private static void heapRefused() {
        int[][] bad = {{0, 0}, {-1, 1}, {1, -1}, {10, 0}, {0, 10}, {10, -10}, {-1, -1}, {MIN, 1}, {1, MIN},
            {MAX, 1}, {1, MAX}, {MAX, MAX}, {MIN, MIN}, {MIN, MAX}};
        for (int[] edge : bad) {
            String what = "9: BAD " + edge[0] + " and " + edge[1];
            Edge.refused(what, Edge::busy, x -> x.heap(edge[0], edge[1]), -2);
            Edge.refused(what + ", ahead of STUCK", Edge::reading, x -> x.heap(edge[0], edge[1]), -2);
            Edge.refused(what + ", ahead of FULL", Edge::full, x -> x.heap(edge[0], edge[1]), -2);
        }
        Edge.refused("9: STUCK, a slip is READ", Edge::reading, x -> x.heap(1, 1), -5);
        Edge.Made fullAndReading = x -> {
            Edge.full(x);
            x.read(true);
        };
        Edge.refused("9: STUCK comes ahead of FULL", fullAndReading, x -> x.heap(1, 1), -5);
        Edge.refused("9: STUCK comes ahead of too many slips", Edge::reading, x -> x.heap(9, 9), -5);
        Edge.refused("9: FULL, 4 HEAPS", x -> {
            for (int i = 0; i < 4; i++) {
                x.heap(1, 1);
            }
        }, x -> x.heap(1, 0), -6);
        Edge.Made of18 = x -> x.heap(9, 9);
        Edge.refused("9: FULL, 25 slips", of18, x -> x.heap(3, 4), -6);
        Edge.refused("9: FULL, 36 slips", of18, x -> x.heap(9, 9), -6);
        Edge.refused("9: FULL, 24 slips are there", x -> {
            x.heap(9, 9);
            x.heap(6, 0);
        }, x -> x.heap(0, 1), -6);
        Edge.refused("9: FULL both ways", Edge::full, x -> x.heap(1, 0), -6);
        AlwaysAhead x = drum(9, 9);
        Due.is("9: just 24 slips", x.heap(0, 6), 1);
    }

    private static void fact() {
        AlwaysAhead x = new AlwaysAhead();
        int[][] edges = {{0, 0, 24}, {1, 24, 0}, {2, 24, 24}, {3, 0, 0}};
        for (int number = 0; number < 4; number++) {
            int[] edge = edges[number];
            Due.is("10: its number", x.fact(edge[0], edge[1], edge[2]), number);
            for (int what = 0; what < 3; what++) {
                Due.is("10: what is remembered", x.factOf(number, what), edge[what]);
            }
        }
        Due.is("10: 4 FACTS", x.status(3), 4);
        int[][] bad = {{-1, 0, 0}, {4, 0, 0}, {MIN, 0, 0}, {MAX, 0, 0}, {0, -1, 0}, {0, 25, 0}, {0, MIN, 0},
            {0, MAX, 0}, {1, 0, -1}, {1, 0, 25}, {3, 0, MIN}, {3, 0, MAX}, {2, 4, -1}, {2, 4, 25}};
        for (int[] edge : bad) {
            String what = "10: BAD " + edge[0] + ", " + edge[1] + ", " + edge[2];
            Edge.refused(what, Edge::busy, y -> y.fact(edge[0], edge[1], edge[2]), -2);
            Edge.refused(what + ", ahead of FULL", Edge::full, y -> y.fact(edge[0], edge[1], edge[2]), -2);
        }
        Edge.refused("10: FULL, 4 FACTS", Edge::full, y -> y.fact(0, 0, 0), -6);
        AlwaysAhead z = drum(1, 1);
        z.read(true);
        Due.is("10: while slips are READ", z.fact(0, 1, 0), 0);
        Due.is("10: it needn't hold", z.ways(), 0);
        z.forget(0);
        Due.is("10: two alike are two", z.fact(2, 2, 2) + z.fact(2, 2, 2), 1);
    }

    /** AABB, ABAB, ABBA, BAAB, BABA, BBAA. */
    private static int ways(int kind, int t, int v) {
        AlwaysAhead x = drum(2, 2);
        x.fact(kind, t, v);
        return x.ways();
    }

    private static void factsOfOneMoment() {
        Due.is("10: AT MOMENT 0", ways(0, 0, 0), 6);
        Due.is("10: AT MOMENT 0 nobody has a slip", ways(0, 0, 1), 0);
        Due.is("10: AT MOMENT 1 there was 1", ways(0, 1, 1), 3);
        Due.is("10: AT MOMENT 2 there were none", ways(0, 2, 0), 1);
        Due.is("10: AT MOMENT 1 there were 2", ways(0, 1, 2), 0);
        Due.is("10: AT MOMENT n", ways(0, 4, 2), 6);
        Due.is("10: AT MOMENT n, one too few", ways(0, 4, 1), 0);
        Due.is("10: AT MOMENT n, one too many", ways(0, 4, 3), 0);
        Due.is("10: AT MOMENT n, 24", ways(0, 4, 24), 0);
        Due.is("10: AT MOMENT n + 1 doesn't count", ways(0, 5, 24), 6);
        Due.is("10: AT MOMENT 24 doesn't count", ways(0, 24, 0), 6);
        Due.is("10: LEVEL at MOMENT 0", ways(2, 0, 0), 6);
        Due.is("10: LEVEL at MOMENT 1", ways(2, 1, 1), 0);
        Due.is("10: LEVEL at MOMENT 2", ways(2, 2, 2), 4);
        Due.is("10: LEVEL, v doesn't count", ways(2, 2, 24), 4);
        Due.is("10: LEVEL, v doesn't count", ways(2, 2, 0), 4);
        Due.is("10: LEVEL at MOMENT n", ways(2, 4, 4), 6);
        Due.is("10: LEVEL at MOMENT n + 1 doesn't count", ways(2, 5, 4), 6);
        AlwaysAhead x = drum(3, 1);
        x.fact(2, 4, 0);
        Due.is("10: LEVEL at MOMENT n, but it isn't so", x.ways(), 0);
        AlwaysAhead y = new AlwaysAhead();
        y.fact(0, 1, 0);
        y.fact(2, 2, 0);
        Due.is("10: no HEAPS: all but MOMENT 0 is beyond n", y.ways(), 1);
        y.heap(1, 0);
        Due.is("10: MOMENT 1 is n now", y.ways(), 0);
        y.forget(0);
        Due.is("10: MOMENT 2 is beyond n yet", y.ways(), 1);
        y.heap(1, 0);
        Due.is("10: MOMENT 2 is n now", y.ways(), 0);
    }

    private static void factsFromTo() {
        Due.is("10: AHEAD at MOMENT 0 is nobody", ways(1, 0, 0), 0);
        Due.is("10: AHEAD from MOMENT 0 on", ways(1, 0, 3), 0);
        Due.is("10: AHEAD at MOMENT 1", ways(1, 1, 1), 3);
        Due.is("10: AHEAD, LEAD 0 is not above 0", ways(1, 1, 2), 1);
        Due.is("10: AHEAD at the last of them too", ways(1, 3, 3), 3);
        Due.is("10: AHEAD to MOMENT n", ways(1, 3, 4), 0);
        Due.is("10: AHEAD to beyond n is to n", ways(1, 4, 24), 0);
        Due.is("10: AHEAD beyond n doesn't count", ways(1, 5, 24), 6);
        Due.is("10: AHEAD from t to a MOMENT before it", ways(1, 4, 3), 6);
        Due.is("10: AHEAD from 24 to 0", ways(1, 24, 0), 6);
        AlwaysAhead x = drum(3, 1);
        x.fact(1, 1, 24);
        // AAAB, AABA
        Due.is("10: AHEAD to beyond n is to n", x.ways(), 2);
        Due.is("10: NEVER at MOMENT 0", ways(3, 0, 0), 6);
        Due.is("10: NEVER, LEAD 0 is not below 0", ways(3, 2, 2), 5);
        Due.is("10: NEVER at MOMENT 1", ways(3, 1, 1), 3);
        Due.is("10: NEVER from 0 to n", ways(3, 0, 4), 2);
        Due.is("10: NEVER at the last of them too", ways(3, 2, 3), 3);
        Due.is("10: NEVER at MOMENT n", ways(3, 4, 4), 6);
        Due.is("10: NEVER to beyond n is to n", ways(3, 3, 24), 3);
        Due.is("10: NEVER beyond n doesn't count", ways(3, 5, 24), 6);
        Due.is("10: NEVER from t to a MOMENT before it", ways(3, 2, 1), 6);
        AlwaysAhead y = drum(1, 2);
        y.fact(3, 3, 24);
        Due.is("10: NEVER at MOMENT n, but it is so", y.ways(), 0);
    }

    private static void forget() {
        for (int bad : new int[] {-1, 2, 3, 4, MIN, MAX}) {
            Edge.refused("11: BAD " + bad, Edge::busy, x -> x.forget(bad), -2);
        }
        Edge.refused("11: nothing is remembered", Edge::empty, x -> x.forget(0), -2);
        Edge.refused("11: FACTS 0 to 3", Edge::full, x -> x.forget(4), -2);
        for (int number = 0; number < 4; number++) {
            AlwaysAhead x = new AlwaysAhead();
            for (int i = 0; i < 4; i++) {
                x.fact(i, 10 + i, 20 + i);
            }
            Due.is("11: how many are left", x.forget(number), 3);
            for (int i = 0; i < 3; i++) {
                int was = i < number ? i : i + 1;
                Due.is("11: those behind move up: KIND", x.factOf(i, 0), was);
                Due.is("11: those behind move up: t", x.factOf(i, 1), 10 + was);
                Due.is("11: those behind move up: v", x.factOf(i, 2), 20 + was);
            }
            Due.is("11: there is no fourth", x.factOf(3, 0), -2);
            Due.is("11: there is room again", x.fact(0, 0, 0), 3);
        }
        AlwaysAhead y = drum(2, 1);
        y.fact(0, 1, 0);
        Due.is("11: the last one", y.forget(0), 0);
        Due.is("11: it doesn't count any more", y.ways(), 3);
    }

    private static void swap() {
        for (int bad : new int[] {-1, 3, 4, MIN, MAX}) {
            Edge.refused("12: BAD i " + bad, Edge::busy, x -> x.swap(bad, 0), -2);
            Edge.refused("12: BAD j " + bad, Edge::busy, x -> x.swap(0, bad), -2);
            Edge.refused("12: BAD comes ahead of one place", Edge::busy, x -> x.swap(bad, bad), -2);
            Edge.refused("12: BAD comes ahead of STUCK", Edge::reading, x -> x.swap(0, bad), -2);
            Edge.refused("12: BAD comes ahead of STUCK", Edge::reading, x -> x.swap(bad, 0), -2);
        }
        Edge.refused("12: no HEAPS", Edge::empty, x -> x.swap(0, 0), -2);
        Edge.refused("12: STUCK, a slip is READ", Edge::reading, x -> x.swap(0, 1), -5);
        Edge.refused("12: STUCK, one place too", Edge::reading, x -> x.swap(2, 2), -5);
        for (int number = 0; number < 3; number++) {
            int i = number;
            Edge.answers("12: 0 if they are one", Edge::busy, x -> x.swap(i, i), 0);
        }
        Edge.comesTo("12: either way round", Edge::busy, x -> x.swap(0, 2), 1, x -> x.swap(2, 0));
        AlwaysAhead x = drum(1, 0, 2, 0, 3, 0, 4, 0);
        Due.is("12: the first and the last", x.swap(0, 3), 1);
        Due.is("12: HEAP 0", x.heapOf(0, 2), 3);
        Due.is("12: HEAP 3", x.heapOf(3, 2), 0);
        Due.is("12: the others stay", x.heapOf(1, 2) * 10 + x.heapOf(2, 2), 12);
        Due.is("12: places, not HEAPS", x.swap(0, 1), 1);
        Due.is("12: HEAP 3 was at place 0", x.heapOf(3, 2), 1);
        Due.is("12: HEAP 1 was at place 1", x.heapOf(1, 2), 0);
        x.read(true);
        x.again();
        Due.is("12: nothing is READ any more", x.swap(0, 1), 1);
    }

    private static void feed() {
        for (int bad : new int[] {-1, 256, MIN, MAX}) {
            Edge.refused("13: BAD " + bad, Edge::busy, x -> x.feed(bad), -2);
        }
        Edge.Made fed = x -> {
            x.fact(0, 1, 2);
            Due.feed(x, "fact 1 2 3");
            for (int i = 10; i < 250; i++) {
                x.feed(32);
            }
        };
        Edge.refused("13: FULL, 250 bytes", fed, x -> x.feed(32), -6);
        Edge.refused("13: FULL, 250 bytes", fed, x -> x.feed(0), -6);
        Edge.refused("13: BAD comes ahead of FULL", fed, x -> x.feed(256), -2);
        Edge.refused("13: BAD comes ahead of FULL", fed, x -> x.feed(-1), -2);
        AlwaysAhead x = new AlwaysAhead();
        for (int letter = 0; letter < 250; letter++) {
            Due.is("13: its size", x.feed(letter + 6), letter + 1);
        }
        Due.is("13: the 251st", x.feed(32), -6);
        Due.is("13: 250 stay", x.status(7), 250);
        AlwaysAhead y = new AlwaysAhead();
        Due.is("13: byte 0", y.feed(0), 1);
        Due.is("13: byte 255", y.feed(255), 2);
        AlwaysAhead z = new AlwaysAhead();
        Due.feed(z, "fact 0 0 0");
        for (int i = 10; i < 240; i++) {
            z.feed(' ');
        }
        Due.feed(z, ";fact 1 1 ");
        Due.is("13: no room for the last byte", z.feed('1'), -6);
        Due.is("13: it isn't there", z.drum(), -270);
    }

    private static void wipe() {
        Edge.answers("14: an empty one", Edge::empty, AlwaysAhead::wipe, 0);
        AlwaysAhead x = new AlwaysAhead();
        for (int i = 0; i < 250; i++) {
            x.feed('a');
        }
        Due.is("14: its size ahead", x.wipe(), 250);
        Due.is("14: it is empty", x.status(7), 0);
        Due.is("14: it is empty", x.wipe(), 0);
        Due.is("14: there is room again", x.feed('f'), 1);
        Due.feed(x, "act 0 0 0");
        Due.is("14: what was there is gone", x.drum(), 1);
    }

    private static void heapOf() {
        for (int bad : new int[] {-1, 3, 4, MIN, MAX}) {
            Edge.refused("16: BAD HEAP " + bad, Edge::busy, x -> x.heapOf(bad, 0), -2);
        }
        for (int bad : new int[] {-1, 3, MIN, MAX}) {
            Edge.refused("16: BAD what " + bad, Edge::busy, x -> x.heapOf(0, bad), -2);
        }
        Edge.refused("16: no HEAPS", Edge::empty, x -> x.heapOf(0, 0), -2);
        Edge.refused("16: no HEAPS", Edge::empty, x -> x.heapOf(0, 2), -2);
        int[][] due = {{1, 2, 2}, {2, 1, 1}, {0, 2, 0}};
        for (int number = 0; number < 9; number++) {
            int heap = number / 3;
            int what = number % 3;
            Edge.answers("16: HEAP " + heap, Edge::busy, x -> x.heapOf(heap, what), due[heap][what]);
            Edge.answers("16: HEAP " + heap + ", READ or not", Edge::reading, x -> x.heapOf(heap, what), due[heap][what]);
        }
    }

    private static void factOf() {
        for (int bad : new int[] {-1, 2, 3, 4, MIN, MAX}) {
            Edge.refused("17: BAD FACT " + bad, Edge::busy, x -> x.factOf(bad, 0), -2);
        }
        for (int bad : new int[] {-1, 3, MIN, MAX}) {
            Edge.refused("17: BAD what " + bad, Edge::busy, x -> x.factOf(0, bad), -2);
        }
        Edge.refused("17: nothing is remembered", Edge::empty, x -> x.factOf(0, 0), -2);
        int[][] due = {{3, 9, 24}, {2, 4, 9}};
        for (int number = 0; number < 6; number++) {
            int fact = number / 3;
            int what = number % 3;
            Edge.answers("17: FACT " + fact, Edge::busy, x -> x.factOf(fact, what), due[fact][what]);
        }
    }
}
