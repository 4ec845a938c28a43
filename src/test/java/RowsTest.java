/** Promises 18, 19 and 24 to 35: how many ROWS, of three that can be written down here. */
public final class RowsTest {
    public static void main(String[] args) {
        threeRows();
        noHeaps();
        badNumbers();
        factsAndReading();
        momentsBeyondN();
        noWays();
        Due.end("RowsTest");
    }

    private static void all(String what, int[] got, int... due) {
        for (int i = 0; i < got.length; i++) {
            Due.is(what + " " + i, got[i], i < due.length ? due[i] : 0);
        }
    }

    private static int[] asked(AlwaysAhead x, int promise) {
        int[] got = new int[promise == 24 ? 10 : 25];
        for (int i = 0; i < got.length; i++) {
            switch (promise) {
                case 24: got[i] = x.ahead(i); break;
                case 26: got[i] = x.level(i); break;
                case 27: got[i] = x.last(i); break;
                case 28: got[i] = x.greatest(i); break;
                default: got[i] = x.sure(i); break;
            }
        }
        return got;
    }

    private static void threeRows() {
        AlwaysAhead x = new AlwaysAhead();
        x.heap(2, 1);
        // AAB, ABA, BAA
        Due.is("18: rows()", x.rows(), 3);
        Due.is("19: ways()", x.ways(), 3);
        all("24: ahead", asked(x, 24), 2, 1);
        Due.is("25: never()", x.never(), 2);
        all("26: level", asked(x, 26), 1, 2);
        all("27: last", asked(x, 27), 1, 0, 2);
        all("28: greatest", asked(x, 28), 0, 2, 1);
        all("29: sure", asked(x, 29), 0, 0, 1, 2);
        int[][] soFar = {{3}, {1, 2}, {0, 2, 1}, {0, 0, 3}};
        for (int t = 0; t <= 24; t++) {
            for (int a = 0; a <= 24; a++) {
                int due = t < 4 && a < soFar[t].length ? soFar[t][a] : 0;
                Due.is("30: soFar(" + t + ", " + a + ")", x.soFar(t, a), due);
            }
        }
        Due.is("31: spent()", x.spent(), 6);
        Due.is("32: mean()", x.mean(), 8);
        Due.is("33: price(0)", x.price(0), 666);
        Due.is("33: price(1)", x.price(1), 333);
        Due.is("33: price(2)", x.price(2), 0);
        Due.is("34: often()", x.often(), 1);
        Due.is("35: half()", x.half(), 3);
        AlwaysAhead y = new AlwaysAhead();
        y.heap(1, 1);
        Due.is("33: half of them", y.price(0), 500);
        Due.is("29: both the same", y.sure(2), 2);
        Due.is("35: both the same", y.half(), 2);
        Due.is("28: BA", y.greatest(0), 1);
        AlwaysAhead z = new AlwaysAhead();
        z.heap(3, 1);
        // AAAB at 3, the others at 4, but AABA and ABAA and BAAA: at 4
        Due.is("29: sure(3)", z.sure(3), 1);
        z.fact(0, 2, 2);
        Due.is("35: half of two", z.half(), 3);
        Due.is("34: of several the least", z.often(), 0);
        z.forget(0);
        z.read(true);
        z.fact(2, 2, 0);
        Due.is("34: often()", z.often(), 1);
    }

    private static void noHeaps() {
        AlwaysAhead x = new AlwaysAhead();
        Due.is("18: rows()", x.rows(), 1);
        Due.is("19: ways()", x.ways(), 1);
        all("24: ahead", asked(x, 24), 1, 1, 1, 1, 1, 1, 1, 1, 1, 1);
        Due.is("25: never()", x.never(), 1);
        all("26: level", asked(x, 26), 1);
        all("27: last", asked(x, 27), 1);
        all("28: greatest", asked(x, 28), 1);
        all("29: sure", asked(x, 29), 1);
        Due.is("30: soFar(0, 0)", x.soFar(0, 0), 1);
        Due.is("30: soFar(0, 1)", x.soFar(0, 1), 0);
        Due.is("31: spent()", x.spent(), 0);
        Due.is("32: mean()", x.mean(), 0);
        Due.is("33: price(9)", x.price(9), 1000);
        Due.is("34: often()", x.often(), 0);
        Due.is("35: half()", x.half(), 0);
    }

    private static void badNumbers() {
        AlwaysAhead x = new AlwaysAhead();
        x.heap(2, 1);
        for (int bad : new int[] {-1, 25, Integer.MIN_VALUE, Integer.MAX_VALUE}) {
            Due.is("24: ahead(" + bad + ")", x.ahead(bad), -2);
            Due.is("26: level(" + bad + ")", x.level(bad), -2);
            Due.is("27: last(" + bad + ")", x.last(bad), -2);
            Due.is("28: greatest(" + bad + ")", x.greatest(bad), -2);
            Due.is("29: sure(" + bad + ")", x.sure(bad), -2);
            Due.is("30: soFar(" + bad + ", 0)", x.soFar(bad, 0), -2);
            Due.is("30: soFar(0, " + bad + ")", x.soFar(0, bad), -2);
            Due.is("33: price(" + bad + ")", x.price(bad), -2);
        }
        Due.is("24: ahead(10)", x.ahead(10), -2);
        Due.is("33: price(10)", x.price(10), -2);
        Due.is("50: REFUSALS BAD", x.status(12), 34);
    }

    private static int waysWith(int kind, int t, int v) {
        AlwaysAhead x = new AlwaysAhead();
        x.heap(2, 2);
        x.fact(kind, t, v);
        return x.ways();
    }

    private static void factsAndReading() {
        // AABB, ABAB, ABBA, BAAB, BABA, BBAA
        Due.is("10: AT 2 there were 1", waysWith(0, 2, 1), 4);
        Due.is("10: AT 2 there were 2", waysWith(0, 2, 2), 1);
        Due.is("10: AT 0 there were 0", waysWith(0, 0, 0), 6);
        Due.is("10: AT 0 there were 1", waysWith(0, 0, 1), 0);
        Due.is("10: AT 2 there were 3", waysWith(0, 2, 3), 0);
        Due.is("10: AHEAD 1 to 1", waysWith(1, 1, 1), 3);
        Due.is("10: AHEAD 1 to 3", waysWith(1, 1, 3), 1);
        Due.is("10: AHEAD 3 to 3", waysWith(1, 3, 3), 3);
        Due.is("10: AHEAD 0 to 0", waysWith(1, 0, 0), 0);
        Due.is("10: AHEAD 3 to 2", waysWith(1, 3, 2), 6);
        Due.is("10: LEVEL 2", waysWith(2, 2, 9), 4);
        Due.is("10: LEVEL 3", waysWith(2, 3, 9), 0);
        Due.is("10: LEVEL 0", waysWith(2, 0, 9), 6);
        Due.is("10: NEVER 0 to 4", waysWith(3, 0, 4), 2);
        Due.is("10: NEVER 3 to 3", waysWith(3, 3, 3), 3);
        Due.is("10: NEVER 4 to 1", waysWith(3, 4, 1), 6);
        AlwaysAhead x = new AlwaysAhead();
        x.heap(2, 2);
        x.fact(2, 2, 0);
        x.read(false);
        Due.is("19: BAAB, BABA", x.ways(), 2);
        Due.is("18: rows() whatever is READ", x.rows(), 6);
        Due.is("31: spent()", x.spent(), 1);
        Due.is("26: level(2)", x.level(2), 2);
        Due.is("27: last(4)", x.last(4), 2);
        Due.is("27: last(2)", x.last(2), 0);
        Due.is("30: soFar(3, 2)", x.soFar(3, 2), 1);
        x.fact(3, 3, 3);
        Due.is("19: BAAB", x.ways(), 1);
        x.fact(0, 1, 1);
        Due.is("19: none", x.ways(), 0);
        x.forget(2);
        x.heap(1, 1);
        x.again();
        Due.is("19: ABAB, BAAB", x.ways(), 2);
        AlwaysAhead y = new AlwaysAhead();
        Due.drum(y, "heap 1 0;heap 1 1;heap 0 2");
        Due.is("18: by HEAPS", y.rows(), 2);
        Due.is("24: AABBB, ABABB", y.ahead(1), 0);
        Due.is("28: greatest(2)", y.greatest(2), 1);
        y.swap(0, 2);
        Due.is("25: BB first", y.never(), 0);
        Due.is("28: greatest(0)", y.greatest(0), 2);
    }

    private static void momentsBeyondN() {
        for (int kind = 0; kind < 4; kind++) {
            Due.is("10: KIND " + kind + " beyond n", waysWith(kind, 5, 24), 6);
        }
        Due.is("10: AHEAD to beyond n", waysWith(1, 3, 24), 0);
        Due.is("10: NEVER to beyond n", waysWith(3, 3, 24), 3);
        AlwaysAhead x = new AlwaysAhead();
        x.fact(0, 2, 2);
        Due.is("10: beyond n", x.ways(), 1);
        x.heap(2, 2);
        Due.is("10: no longer beyond n", x.ways(), 1);
        Due.is("30: soFar(2, 2)", x.soFar(2, 2), 1);
    }

    private static void noWays() {
        AlwaysAhead x = new AlwaysAhead();
        x.heap(2, 1);
        x.fact(1, 0, 0);
        Due.is("19: ways()", x.ways(), 0);
        Due.is("18: rows()", x.rows(), 3);
        Due.is("33: price(1)", x.price(1), -5);
        Due.is("33: BAD ahead of STUCK", x.price(10), -2);
        Due.is("34: often()", x.often(), 0);
        Due.is("35: half()", x.half(), -5);
        Due.is("31: spent()", x.spent(), 0);
        Due.is("32: mean()", x.mean(), 0);
        Due.is("50: REFUSALS STUCK", x.status(15), 2);
        all("26: level", asked(x, 26));
        all("29: sure", asked(x, 29));
        all("28: greatest", asked(x, 28));
    }
}
