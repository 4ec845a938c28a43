/**
 * One call at an edge that the document names, put to an object made for it. Beside the answer it is
 * looked at what the call changed, by a twin that was made alike and is not asked.
 */
final class Edge {
    interface Made {
        void make(AlwaysAhead x);
    }

    interface Call {
        long on(AlwaysAhead x);
    }

    private static final int BAD = -2;
    private static final int FULL = -6;
    private static final int FAULTS_FROM = -20;

    private Edge() {
    }

    /** The call is refused: it answers that number, the number is counted, and nothing else changes. */
    static void refused(String what, Made made, Call call, int due) {
        compare(what, made, call, due, x -> { }, due);
    }

    /** THE TAPE can't be a DRUM: a BAD is counted, THE TAPE is empty then, and nothing else changes. */
    static void fault(String what, Made made, String text, int place) {
        Made fed = x -> {
            made.make(x);
            x.wipe();
            Due.feed(x, text);
        };
        compare(what + " '" + text + "'", fed, AlwaysAhead::drum, FAULTS_FROM - place, AlwaysAhead::wipe, BAD);
    }

    /** The call answers that, nothing is refused, and nothing changes. */
    static void answers(String what, Made made, Call call, long due) {
        compare(what, made, call, due, x -> { }, 0);
    }

    /** The call answers that, nothing is refused, and comes to the same as other calls do. */
    static void comesTo(String what, Made made, Call call, long due, Made others) {
        compare(what, made, call, due, others, 0);
    }

    private static void compare(String what, Made made, Call call, long due, Made others, int refusal) {
        AlwaysAhead x = new AlwaysAhead();
        AlwaysAhead twin = new AlwaysAhead();
        made.make(x);
        made.make(twin);
        Due.is(what, answer(what, call, x), due);
        others.make(twin);
        for (int number = BAD; number >= FULL; number--) {
            int counted = x.status(10 - number) - twin.status(10 - number);
            Due.is(what + ": refusals " + number, counted, number == refusal ? 1 : 0);
        }
        Due.isTrue(what + ": what has changed", state(x).equals(state(twin)));
    }

    private static long answer(String what, Call call, AlwaysAhead x) {
        try {
            return call.on(x);
        } catch (RuntimeException thrown) {
            System.out.println(what + " threw " + thrown);
            return Long.MIN_VALUE;
        }
    }

    /** All that can be seen of an object; what THE TAPE holds and what is kept are seen last, by use. */
    private static String state(AlwaysAhead x) {
        StringBuilder all = new StringBuilder();
        shelves(x, all);
        drum(x, all);
        all.append(" tape ").append(x.drum());
        drum(x, all);
        all.append(" kept ").append(x.back());
        drum(x, all);
        return all.toString();
    }

    private static void shelves(AlwaysAhead x, StringBuilder all) {
        for (int s = 0; s < 8; s++) {
            int thing = x.holds(s);
            all.append(' ').append(thing);
            if (thing > 10) {
                all.append(" by ").append(x.says(s, 0));
            }
            for (int i = 0; thing >= 0 && thing < 10 && i < 5; i++) {
                all.append(',').append(x.element(s, i));
            }
        }
    }

    private static void drum(AlwaysAhead x, StringBuilder all) {
        for (int what = 0; what <= 10; what++) {
            all.append(' ').append(x.status(what));
        }
        for (int heap = 0; heap < x.status(0); heap++) {
            all.append(" heap");
            for (int what = 0; what < 3; what++) {
                all.append(' ').append(x.heapOf(heap, what));
            }
        }
        for (int fact = 0; fact < x.status(3); fact++) {
            all.append(" fact");
            for (int what = 0; what < 3; what++) {
                all.append(' ').append(x.factOf(fact, what));
            }
        }
        all.append(" read ");
        for (int i = 0; i < x.status(2); i++) {
            all.append(x.slip(i));
        }
    }

    // ---- objects that calls are put to ----

    static void empty(AlwaysAhead x) {
    }

    /**
     * Of everything something, no slip READ. SHELVES: 0 a ROW of 4 ints, 1 a ROW of 3 bytes, 2 a DRAWING,
     * 4 a ROW of 5 ints, 6 a ROW of no ints, 3, 5 and 7 NOTHING. n is 8; ORDER 2, 1, 0: BB, then AAB as it
     * comes, then ABB as it comes.
     */
    static void busy(AlwaysAhead x) {
        x.heap(1, 2);
        x.fact(0, 1, 1);
        x.read(true);
        x.seed(5);
        x.image();
        x.again();
        x.heap(2, 1);
        x.heap(0, 2);
        x.swap(0, 2);
        x.forget(0);
        x.fact(3, 9, 24);
        x.fact(2, 4, 9);
        x.seed(77);
        Due.row(x, 0, 1, 0, 1, 7);
        x.row(1, 0, 3);
        x.set(1, 2, -1);
        x.drawing(2, 5, 4);
        Due.row(x, 4, 5, 4, 3, 2, 1);
        x.row(6, 2, 0);
        Due.feed(x, "fact 0 1 2");
    }

    /** The same, one slip READ. */
    static void reading(AlwaysAhead x) {
        busy(x);
        x.read(false);
    }

    /** Four HEAPS, 24 slips, four FACTS (of which all can hold), 12 A slips. */
    static void full(AlwaysAhead x) {
        x.heap(6, 6);
        x.heap(2, 2);
        x.heap(2, 2);
        x.heap(2, 2);
        x.fact(0, 0, 0);
        x.fact(2, 24, 0);
        x.fact(3, 24, 24);
        x.fact(1, 24, 0);
    }

    /** No ROW FITS: A can't be ahead at MOMENT 0. */
    static void noWays(AlwaysAhead x) {
        busy(x);
        x.fact(1, 0, 0);
    }
}
