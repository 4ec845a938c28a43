/** Promises 9 to 12, 16, 17, 20 to 23 and 36: HEAPS, FACTS and what is READ. */
public final class DrumTest {
    public static void main(String[] args) {
        heaps();
        facts();
        swaps();
        reading();
        sureByWhatIsRead();
        Due.end("DrumTest");
    }

    private static void heaps() {
        AlwaysAhead x = new AlwaysAhead();
        int[][] bad = {{0, 0}, {10, 0}, {0, 10}, {-1, 5}, {5, -1}, {Integer.MAX_VALUE, Integer.MAX_VALUE}, {-3, 3}};
        for (int[] heap : bad) {
            Due.is("9: heap(" + heap[0] + ", " + heap[1] + ")", x.heap(heap[0], heap[1]), -2);
        }
        Due.is("9: heap(0, 1)", x.heap(0, 1), 0);
        Due.is("9: heap(9, 9)", x.heap(9, 9), 1);
        Due.is("9: 25 slips", x.heap(3, 3), -6);
        Due.is("9: heap(1, 0)", x.heap(1, 0), 2);
        x.read(false);
        Due.is("9: BAD ahead of STUCK", x.heap(0, 0), -2);
        Due.is("9: STUCK ahead of FULL", x.heap(9, 9), -5);
        x.again();
        Due.is("9: 24 slips", x.heap(2, 2), 3);
        Due.is("9: a fifth", x.heap(1, 0), -6);
        Due.is("9: BAD ahead of FULL", x.heap(10, 0), -2);
        int[][] due = {{0, 1, 0}, {9, 9, 1}, {1, 0, 2}, {2, 2, 3}};
        for (int heap = 0; heap < 4; heap++) {
            for (int what = 0; what < 3; what++) {
                Due.is("16: heapOf(" + heap + ", " + what + ")", x.heapOf(heap, what), due[heap][what]);
            }
        }
        Due.is("16: heapOf(4, 0)", x.heapOf(4, 0), -2);
        Due.is("16: heapOf(-1, 0)", x.heapOf(-1, 0), -2);
        Due.is("16: heapOf(0, 3)", x.heapOf(0, 3), -2);
        Due.is("16: heapOf(0, -1)", x.heapOf(0, -1), -2);
        Due.is("9: status(12)", x.status(12), 13);
        Due.is("9: status(15)", x.status(15), 1);
        Due.is("9: status(16)", x.status(16), 2);
        Due.is("50: n", x.status(1), 24);
        Due.is("50: A slips", x.status(4), 12);
        Due.is("50: B slips", x.status(5), 12);
        AlwaysAhead y = new AlwaysAhead();
        for (int i = 0; i < 4; i++) {
            y.heap(1, 0);
        }
        Due.is("9: four HEAPS at most", y.heap(1, 0), -6);
        Due.is("16: no such HEAP", new AlwaysAhead().heapOf(0, 0), -2);
    }

    private static void facts() {
        AlwaysAhead x = new AlwaysAhead();
        int[][] bad = {{-1, 0, 0}, {4, 0, 0}, {0, -1, 0}, {0, 25, 0}, {0, 0, -1}, {0, 0, 25}, {2, 0, 25}};
        for (int[] fact : bad) {
            Due.is("10: a BAD FACT", x.fact(fact[0], fact[1], fact[2]), -2);
        }
        Due.is("10: fact(0, 24, 24)", x.fact(0, 24, 24), 0);
        Due.is("10: fact(1, 5, 3)", x.fact(1, 5, 3), 1);
        Due.is("10: fact(2, 4, 7)", x.fact(2, 4, 7), 2);
        Due.is("10: fact(3, 0, 1)", x.fact(3, 0, 1), 3);
        Due.is("10: a fifth", x.fact(0, 0, 0), -6);
        Due.is("10: BAD ahead of FULL", x.fact(4, 0, 0), -2);
        Due.is("17: KIND", x.factOf(2, 0), 2);
        Due.is("17: t", x.factOf(2, 1), 4);
        Due.is("17: v", x.factOf(2, 2), 7);
        Due.is("17: what 3", x.factOf(2, 3), -2);
        Due.is("17: what -1", x.factOf(2, -1), -2);
        Due.is("17: FACT 4", x.factOf(4, 0), -2);
        Due.is("17: FACT -1", x.factOf(-1, 0), -2);
        Due.is("11: forget(4)", x.forget(4), -2);
        Due.is("11: forget(-1)", x.forget(-1), -2);
        Due.is("11: forget(1)", x.forget(1), 3);
        Due.is("11: those behind move up", x.factOf(1, 2), 7);
        Due.is("11: those behind move up", x.factOf(2, 0), 3);
        Due.is("11: those ahead stay", x.factOf(0, 1), 24);
        Due.is("11: gone", x.factOf(3, 0), -2);
        Due.is("11: forget(2)", x.forget(2), 2);
        Due.is("11: forget(0)", x.forget(0), 1);
        Due.is("11: forget(0)", x.forget(0), 0);
        Due.is("11: forget(0)", x.forget(0), -2);
    }

    private static void swaps() {
        AlwaysAhead x = new AlwaysAhead();
        Due.is("12: no HEAPS", x.swap(0, 0), -2);
        x.heap(1, 0);
        x.heap(0, 1);
        x.heap(2, 2);
        Due.is("12: swap(0, 2)", x.swap(0, 2), 1);
        Due.is("12: swap(1, 1)", x.swap(1, 1), 0);
        Due.is("12: swap(0, 3)", x.swap(0, 3), -2);
        Due.is("12: swap(3, 0)", x.swap(3, 0), -2);
        Due.is("12: swap(-1, 0)", x.swap(-1, 0), -2);
        Due.is("12: swap(0, -1)", x.swap(0, -1), -2);
        Due.is("12: swap(2, 0) and back", x.swap(2, 0) + x.swap(0, 2), 2);
        Due.is("16: HEAP 0", x.heapOf(0, 2), 2);
        Due.is("16: HEAP 1", x.heapOf(1, 2), 1);
        Due.is("16: HEAP 2", x.heapOf(2, 2), 0);
        Due.is("12: swap(0, 1)", x.swap(0, 1), 1);
        Due.is("16: HEAP 2", x.heapOf(2, 2), 1);
        Due.is("50: drawn now", x.status(10), 1);
        x.heap(1, 1);
        Due.is("9: a new one last", x.heapOf(3, 2), 3);
        x.read(false);
        Due.is("12: BAD ahead of STUCK", x.swap(4, 4), -2);
        Due.is("12: STUCK", x.swap(0, 1), -5);
        Due.is("12: STUCK, one place too", x.swap(1, 1), -5);
        Due.is("12: nothing has changed", x.heapOf(1, 2), 0);
    }

    private static void reading() {
        AlwaysAhead x = new AlwaysAhead();
        Due.is("20: no HEAPS", x.read(true), -5);
        x.heap(1, 1);
        x.heap(0, 2);
        x.heap(1, 0);
        x.fact(1, 0, 24);
        Due.is("20: whatever is remembered", x.read(true), 1);
        Due.is("20: no A left in that HEAP", x.read(true), -5);
        Due.is("23: lead()", x.lead(), 1);
        Due.is("20: read(false)", x.read(false), 2);
        Due.is("50: drawn now", x.status(10), 1);
        Due.is("20: no A in the next", x.read(true), -5);
        Due.is("20: read(false)", x.read(false), 3);
        Due.is("20: read(false)", x.read(false), 4);
        Due.is("23: lead()", x.lead(), -2);
        Due.is("20: read(false)", x.read(false), -5);
        Due.is("20: read(true)", x.read(true), 5);
        Due.is("20: all are READ", x.read(true), -5);
        Due.is("20: all are READ", x.read(false), -5);
        int[] due = {1, 0, 0, 0, 1};
        for (int i = 0; i < 5; i++) {
            Due.is("21: slip(" + i + ")", x.slip(i), due[i]);
        }
        Due.is("21: slip(5)", x.slip(5), -2);
        Due.is("21: slip(-1)", x.slip(-1), -2);
        Due.is("50: A slips READ", x.status(6), 2);
        Due.is("50: all are READ", x.status(10), -1);
        Due.is("23: lead()", x.lead(), -1);
        Due.is("22: again()", x.again(), 5);
        Due.is("22: again()", x.again(), 0);
        Due.is("22: none READ", x.status(2), 0);
        Due.is("22: no A READ", x.status(6), 0);
        Due.is("21: slip(0)", x.slip(0), -2);
        Due.is("23: lead()", x.lead(), 0);
        Due.is("22: FACTS stay", x.status(3), 1);
        Due.is("50: REFUSALS STUCK", x.status(15), 6);
    }

    private static void sureByWhatIsRead() {
        AlwaysAhead x = new AlwaysAhead();
        Due.is("36: no HEAPS", x.isSure(), 1);
        x.heap(3, 2);
        x.fact(0, 5, 0);
        int[] slips = {1, 0, 1, 1, 0};
        int[] due = {0, 0, 0, 1, 1};
        Due.is("36: none READ", x.isSure(), 0);
        for (int i = 0; i < 5; i++) {
            x.read(slips[i] == 1);
            Due.is("36: " + (i + 1) + " READ", x.isSure(), due[i]);
        }
        AlwaysAhead y = new AlwaysAhead();
        y.heap(1, 1);
        y.read(true);
        Due.is("36: both the same, 1 READ", y.isSure(), 0);
        y.read(false);
        Due.is("36: both the same, all READ", y.isSure(), 1);
        AlwaysAhead z = new AlwaysAhead();
        z.heap(1, 3);
        z.read(false);
        z.read(false);
        Due.is("36: just as many are left", z.isSure(), 0);
        z.read(false);
        Due.is("36: B is sure", z.isSure(), 1);
    }
}
