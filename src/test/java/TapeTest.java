/** Promises 13 to 15: THE TAPE and a DRUM read from it. */
public final class TapeTest {
    public static void main(String[] args) {
        tape();
        whatCanStand();
        faultsOfAnEmptyDrum();
        faultsBehindStatements();
        faultsWhileSlipsAreRead();
        allOrNothing();
        addsToWhatThereIs();
        Due.end("TapeTest");
    }

    private static void tape() {
        AlwaysAhead x = new AlwaysAhead();
        Due.is("13: feed(0)", x.feed(0), 1);
        Due.is("13: feed(255)", x.feed(255), 2);
        Due.is("13: feed(256)", x.feed(256), -2);
        Due.is("13: feed(-1)", x.feed(-1), -2);
        Due.is("50: its size", x.status(7), 2);
        Due.is("14: wipe()", x.wipe(), 2);
        Due.is("14: wipe()", x.wipe(), 0);
        for (int i = 1; i <= 250; i++) {
            Due.is("13: feed", x.feed(32), i);
        }
        Due.is("13: FULL", x.feed(32), -6);
        Due.is("13: BAD ahead of FULL", x.feed(256), -2);
        Due.is("15: 250 blanks", x.drum(), -270);
        Due.is("15: THE TAPE is empty then", x.wipe(), 0);
        Due.is("15: BAD", x.status(12), 4);
    }

    private static void answers(String text, int due) {
        Due.is("15: '" + text + "'", Due.drum(new AlwaysAhead(), text), due);
    }

    private static void whatCanStand() {
        answers("heap 1 1", 1);
        answers("  heap1 1  ", 1);
        answers("heap 03 09", 1);
        answers("heap 0 1;heap 9 9;heap 2 2;heap 1 0", 4);
        answers("fact 3 24 24;fact0 0 00;fact 1 5 3 ;  fact 2 4 7", 4);
        answers("heap 1 1;heap 2 0;swap 1 0;read aab", 4);
        answers("heap 1 1;read b;read a;fact 0 0 0", 4);
    }

    private static void faultsOfAnEmptyDrum() {
        answers("", -20);
        answers("   ", -23);
        answers(";", -20);
        answers(" ;", -21);
        answers("heap 1 1;", -29);
        answers("heap 1 1; ", -30);
        answers("heap 1 1;;", -29);
        answers("heap", -24);
        answers("heap ", -25);
        answers("heap 1", -26);
        answers("heap 1;", -26);
        answers("heap 1 1 1", -29);
        answers("heap 1 1 heap 1 1", -29);
        answers("heap 10 1", -25);
        answers("heap 003 1", -25);
        answers("heap 1 10", -27);
        answers("heap 1 001", -27);
        answers("heap 12345678901234567890 1", -25);
        answers("heap 0 0", -27);
        answers("heap a 1", -25);
        answers("heap 1 #", -27);
        answers("heap 1 1#", -28);
        answers("heap 1 1\t", -28);
        answers("heap -1 1", -25);
        answers("hea 1 1", -20);
        answers("heaps 1 1", -20);
        answers("heapz 1 1", -20);
        answers("aheap 1 1", -20);
        answers("reap 1 1", -20);
        answers("heap{1 1", -24);
        answers("heap`1 1", -24);
        answers("heap 1/1", -26);
        answers("heap 1:1", -26);
        answers(" Heap 1 1", -21);
        answers("heapA", -24);
        answers("1 1", -20);
        answers("a", -20);
        answers("\u0000", -20);
        answers("\u00ff", -20);
        answers("fact 4 0 0", -25);
        answers("fact 0 25 0", -27);
        answers("fact 0 0 25", -29);
        answers("fact 2 0 25", -29);
        answers("fact 0 0", -28);
        answers("fact 0 0 0 0", -31);
        answers("read", -24);
        answers("read ;", -25);
        answers("read 1", -25);
        answers("read a", -25);
        answers("readab", -20);
        answers("swap 0 1", -25);
        answers("swap", -24);
    }

    private static void faultsBehindStatements() {
        answers("heap 9 9;heap 4 3", -36);
        answers("heap 9 9;heap 3 3;heap 9 0", -45);
        answers("heap 9 9;heap 3 3;heap 0 1", -45);
        answers("heap 1 0;heap 1 0;heap 1 0;heap 1 0;heap 1 0", -56);
        answers("heap 1 0;heap 1 0;heap 1 0;heap 1 0;heap", -56);
        answers("fact 0 0 0;fact 0 0 0;fact 0 0 0;fact 0 0 0;fact 9", -64);
        answers("heap 1 1;swap 0 1", -36);
        answers("heap 1 1;swap 1 0", -34);
        answers("heap 1 1;heap 1 1;swap 1 1", -45);
        answers("heap 1 1;heap 1 1;swap 0 2", -45);
        answers("heap 1 1;read ab;read a", -42);
        answers("heap 2 2;read abc", -34);
        answers("heap 2 2;read heap", -34);
        answers("heap 1 1;read aa", -34);
        answers("heap 1 1;read ab;heap 1 1", -37);
        answers("heap 1 1;heap 1 1;read a;swap 0 1", -45);
        answers("heap 2 0;heap 0 1;read b", -43);
    }

    private static void faultsWhileSlipsAreRead() {
        AlwaysAhead x = new AlwaysAhead();
        x.heap(2, 2);
        x.heap(1, 1);
        x.read(true);
        Due.is("15: heap while READ", Due.drum(x, " heap 99"), -21);
        Due.is("15: swap while READ", Due.drum(x, "swap"), -20);
        Due.is("15: read goes on", Due.drum(x, "read bab;read ba"), 2);
        Due.is("15: all are READ", Due.drum(x, "read a"), -25);
        Due.is("15: a FACT can be", Due.drum(x, "fact 0 1 1"), 1);
    }

    private static void allOrNothing() {
        AlwaysAhead x = new AlwaysAhead();
        Due.drum(x, "heap 2 1;heap 0 2;fact 0 1 1");
        x.seed(77);
        int refusals = x.status(12);
        Due.is("15: a FAULT at the end", Due.drum(x, "heap 1 1;swap 0 2;fact 1 1 1;read abb;?"), -58);
        Due.is("15: HEAPS", x.status(0), 2);
        Due.is("15: n", x.status(1), 5);
        Due.is("15: READ", x.status(2), 0);
        Due.is("15: FACTS", x.status(3), 1);
        Due.is("15: A slips", x.status(4), 2);
        Due.is("15: A slips READ", x.status(6), 0);
        Due.is("15: THE TAPE", x.status(7), 0);
        Due.is("15: SEED", x.status(8), 77);
        Due.is("15: ORDER", x.heapOf(0, 2), 0);
        Due.is("15: one BAD more", x.status(12), refusals + 1);
        Due.is("15: no other refusal", x.status(13) + x.status(14) + x.status(15) + x.status(16), 0);
        Due.is("15: half a word", Due.drum(x, "read aabb;read bbb"), -35);
        Due.is("15: READ", x.status(2), 0);
    }

    private static void addsToWhatThereIs() {
        AlwaysAhead x = new AlwaysAhead();
        x.heap(1, 0);
        x.fact(2, 2, 0);
        Due.is("15: STATEMENTS", Due.drum(x, "heap 0 3;swap 0 1;fact 3 1 2;read bb"), 4);
        Due.is("15: its B slips", x.heapOf(1, 1), 3);
        Due.is("15: its place", x.heapOf(1, 2), 0);
        Due.is("15: its KIND", x.factOf(1, 0), 3);
        Due.is("15: its t", x.factOf(1, 1), 1);
        Due.is("15: its v", x.factOf(1, 2), 2);
        Due.is("15: READ", x.status(2), 2);
        Due.is("15: lead()", x.lead(), -2);
        Due.is("15: nothing is refused", x.status(12), 0);
    }
}
