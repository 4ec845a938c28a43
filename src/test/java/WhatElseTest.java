/** Promises 38 to 50: told ROWS, ORDERS, LOST slips, BOOKS, DRAWS, what is kept, status. */
public final class WhatElseTest {
    public static void main(String[] args) {
        judging();
        judgingFacts();
        telling();
        luck();
        orders();
        lost();
        books();
        draws();
        seeds();
        images();
        status();
        Due.end("WhatElseTest");
    }

    private static int judged(AlwaysAhead x, long... elements) {
        Due.row(x, 0, elements);
        return x.judge(0);
    }

    private static void judging() {
        AlwaysAhead x = new AlwaysAhead();
        Due.is("38: no elements, n 0", judged(x), -1);
        Due.is("38: beyond n", judged(x, 1), 0);
        x.heap(1, 2);
        x.heap(2, 0);
        Due.is("38: it can be", judged(x, 0, 1, 0, 1, 1), -1);
        Due.is("38: it ends ahead of n", judged(x, 0, 1), -1);
        Due.is("38: no elements", judged(x), -1);
        Due.is("38: beyond n", judged(x, 0, 1, 0, 1, 1, 1), 5);
        Due.is("38: no such slip left", judged(x, 1, 1), 1);
        Due.is("38: none in the next HEAP", judged(x, 0, 1, 0, 0), 3);
        Due.is("38: no slip", judged(x, 0, 2, 0), 1);
        Due.is("38: no slip", judged(x, -1), 0);
        x.row(0, 3, 2);
        x.set(0, 1, 1L << 32);
        Due.is("38: a long that is no slip", x.judge(0), 1);
        x.read(false);
        x.read(true);
        Due.is("38: as READ", judged(x, 0, 1, 0, 1, 1), -1);
        Due.is("38: not as READ", judged(x, 1, 0, 0, 1, 1), 0);
        Due.is("38: not as READ", judged(x, 0, 0, 1, 1, 1), 1);
        Due.is("38: no SHELF", x.judge(8), -2);
        Due.is("38: NOTHING", x.judge(1), -4);
        x.drawing(1, 1, 1);
        Due.is("38: a DRAWING", x.judge(1), -3);
    }

    private static int judgedWith(int kind, int t, int v, long... elements) {
        AlwaysAhead x = new AlwaysAhead();
        x.heap(2, 2);
        x.fact(kind, t, v);
        return judged(x, elements);
    }

    private static void judgingFacts() {
        Due.is("38: AT", judgedWith(0, 2, 2, 1, 0, 1, 0), 1);
        Due.is("38: AT holds", judgedWith(0, 2, 1, 1, 0, 1, 0), -1);
        Due.is("38: AT comes later", judgedWith(0, 3, 0, 1, 0), -1);
        Due.is("38: AT MOMENT 0", judgedWith(0, 0, 1, 1, 0), 0);
        Due.is("38: AT MOMENT 0, no elements", judgedWith(0, 0, 1), -1);
        Due.is("38: AHEAD", judgedWith(1, 1, 3, 1, 0, 1, 0), 1);
        Due.is("38: AHEAD from MOMENT 0", judgedWith(1, 0, 3, 1, 1, 0, 0), 0);
        Due.is("38: LEVEL", judgedWith(2, 3, 0, 1, 0, 1, 0), 2);
        Due.is("38: LEVEL holds", judgedWith(2, 2, 0, 1, 0, 1, 0), -1);
        Due.is("38: NEVER", judgedWith(3, 2, 4, 0, 1, 0, 1), 2);
        Due.is("38: beyond n", judgedWith(2, 5, 0, 0, 1, 0, 1), -1);
    }

    private static void telling() {
        AlwaysAhead x = new AlwaysAhead();
        x.heap(3, 3);
        Due.row(x, 0, 1, 1, 0, 0, 0, 1);
        Due.is("39: ahead", x.told(0, 0), 3);
        Due.is("39: level", x.told(0, 1), 2);
        Due.is("39: greatest", x.told(0, 2), 2);
        Due.row(x, 1, 0, 0, 0, 1, 1, 1);
        Due.is("39: never ahead", x.told(1, 0), 0);
        Due.is("39: level at the end alone", x.told(1, 1), 1);
        Due.is("39: 0 at MOMENT 0", x.told(1, 2), 0);
        Due.is("39: what 3", x.told(0, 3), -2);
        Due.is("39: what -1", x.told(0, -1), -2);
        Due.is("39: BAD ahead of NOTHING", x.told(2, 3), -2);
        Due.is("39: no SHELF", x.told(8, 0), -2);
        Due.is("39: NOTHING", x.told(2, 0), -4);
        x.drawing(2, 1, 1);
        Due.is("39: a DRAWING", x.told(2, 0), -3);
        Due.row(x, 3, 1, 1, 0, 0, 0);
        Due.is("39: not of n", x.told(3, 0), -5);
        Due.row(x, 3, 1, 1, 0, 0, 0, 0);
        Due.is("39: it can't be", x.told(3, 0), -5);
        Due.row(x, 3, 1, 1, 0, 0, 0, 1, 1);
        Due.is("39: beyond n", x.told(3, 0), -5);
        x.read(false);
        Due.is("39: not as READ", x.told(0, 0), -5);
        Due.is("39: as READ", x.told(1, 1), 1);
        Due.is("50: REFUSALS STUCK", x.status(15), 4);
    }

    private static void luck() {
        AlwaysAhead x = new AlwaysAhead();
        x.heap(2, 1);
        // AAB 3, ABA 2, BAA 1
        long[][] rows = {{1, 1, 0}, {1, 0, 1}, {0, 1, 1}};
        for (int i = 0; i < 3; i++) {
            Due.row(x, i, rows[i]);
            Due.is("40: luck(" + i + ")", x.luck(i), i + 1);
        }
        x.read(true);
        Due.is("40: of those that FIT", x.luck(1), 2);
        Due.is("40: it can't be", x.luck(2), -5);
        x.fact(2, 2, 0);
        Due.is("40: of those that FIT", x.luck(1), 1);
        Due.is("40: a FACT doesn't hold", x.luck(0), -5);
        Due.is("40: no SHELF", x.luck(-1), -2);
        Due.is("40: NOTHING", x.luck(4), -4);
        x.drawing(4, 1, 1);
        Due.is("40: a DRAWING", x.luck(4), -3);
        x.row(5, 0, 2);
        Due.is("40: not of n", x.luck(5), -5);
    }

    private static void ordered(AlwaysAhead x, boolean most, int... due) {
        for (int i = 0; i < due.length; i++) {
            Due.is("41: order(" + most + ", " + i + ")", x.order(most, i), due[i]);
        }
    }

    private static void orders() {
        AlwaysAhead x = new AlwaysAhead();
        Due.is("41: no HEAPS", x.order(true, 0), -2);
        x.heap(0, 2);
        ordered(x, true, 0);
        x.heap(1, 1);
        x.heap(3, 0);
        x.heap(1, 0);
        x.fact(1, 0, 9);
        // AAABBA, then AB or BA: always ahead; 2, 3 ahead of 0 would be so, too, but come later
        ordered(x, true, 2, 0, 3, 1);
        ordered(x, false, 0, 1, 2, 3);
        x.swap(0, 3);
        x.read(true);
        ordered(x, true, 2, 0, 3, 1);
        Due.is("41: place 4", x.order(true, 4), -2);
        Due.is("41: place -1", x.order(false, -1), -2);
        AlwaysAhead w = new AlwaysAhead();
        Due.drum(w, "heap 0 1;heap 2 0");
        ordered(w, true, 1, 0);
        ordered(w, false, 0, 1);
        AlwaysAhead z = new AlwaysAhead();
        Due.drum(z, "heap 3 0;heap 0 2;heap 0 1");
        ordered(z, true, 0, 1, 2);
        ordered(z, false, 1, 2, 0);
        AlwaysAhead y = new AlwaysAhead();
        for (int i = 0; i < 4; i++) {
            y.heap(1, 1);
        }
        y.swap(0, 2);
        ordered(y, true, 0, 1, 2, 3);
        ordered(y, false, 0, 1, 2, 3);
    }

    private static void lost() {
        AlwaysAhead x = new AlwaysAhead();
        Due.is("42: lost(21)", x.lost(21), -2);
        Due.is("42: lost(-1)", x.lost(-1), -2);
        Due.is("42: both the same, lost(0)", x.lost(0), 0);
        Due.is("42: both the same, lost(1)", x.lost(1), 1);
        Due.is("42: both the same, lost(3)", x.lost(3), 4);
        x.heap(1, 3);
        Due.is("42: lost(0)", x.lost(0), 0);
        Due.is("42: lost(1)", x.lost(1), 0);
        Due.is("42: lost(2)", x.lost(2), 1);
        Due.is("42: lost(4)", x.lost(4), 5);
        AlwaysAhead y = new AlwaysAhead();
        y.heap(3, 1);
        Due.is("42: lost(4)", y.lost(4), 5);
        Due.is("42: lost(20)", y.lost(20), 431910);
        y.heap(9, 0);
        y.heap(9, 0);
        Due.is("42: 20 ahead", y.lost(20), 1);
        Due.is("42: 20 ahead", y.lost(19), 0);
    }

    private static void books() {
        AlwaysAhead x = new AlwaysAhead();
        x.heap(2, 1);
        x.heap(1, 1);
        x.read(false);
        x.fact(1, 0, 9);
        Due.row(x, 0, 2, 2, 2, 2, 2);
        Due.is("43: none seen", x.books(0, 0), 6);
        Due.row(x, 1, 1, 7, -1, 2, 0);
        Due.is("43: books(0, 1)", x.books(0, 1), 2);
        Due.is("44: unlike(0, 1)", x.unlike(0, 1), -1);
        Due.row(x, 2, 5, 1, 5, 5, 0);
        Due.is("43: books(1, 2)", x.books(1, 2), 1);
        Due.row(x, 2, 5, 0, 0, 5, 5);
        Due.is("43: more B than there are", x.books(0, 2), 0);
        Due.row(x, 2, 5, 5, 5, 1, 1);
        Due.is("43: more A than there are", x.books(0, 2), 0);
        Due.is("44: unlike(1, 2)", x.unlike(1, 2), 4);
        Due.is("43: unlike books", x.books(1, 2), 0);
        Due.row(x, 3, 0, 5, 5, 1, 1);
        Due.is("44: the first", x.unlike(3, 1), 0);
        x.row(4, 4, 4);
        Due.is("43: not n elements", x.books(1, 4), -2);
        Due.is("44: not n elements", x.unlike(4, 1), -2);
        Due.is("43: NOTHING", x.books(4, 5), -4);
        Due.is("44: NOTHING", x.unlike(5, 4), -4);
        x.drawing(6, 1, 1);
        Due.is("43: OTHER ahead of NOTHING", x.books(5, 6), -3);
        Due.is("44: OTHER ahead of NOTHING", x.unlike(6, 5), -3);
        Due.is("43: no SHELF", x.books(6, 8), -2);
        Due.is("44: no SHELF", x.unlike(-1, 6), -2);
        AlwaysAhead y = new AlwaysAhead();
        y.row(0, 0, 0);
        Due.is("43: no HEAPS", y.books(0, 0), 1);
        Due.is("44: no HEAPS", y.unlike(0, 0), -1);
        AlwaysAhead z = new AlwaysAhead();
        Due.drum(z, "heap 1 0;heap 0 1;swap 0 1");
        Due.row(z, 0, 0, 1);
        Due.is("43: by ORDER", z.books(0, 0), 1);
    }

    private static void draws() {
        AlwaysAhead x = new AlwaysAhead();
        Due.is("45: no HEAPS", x.draw(), -5);
        Due.is("47: SEED stays", x.status(8), 1);
        x.heap(2, 1);
        Due.is("45: draw()", x.draw(), 0);
        Due.is("47: SEED", x.status(8), 1103527590);
        Due.is("45: draw()", x.draw(), 1);
        Due.is("45: READ", x.status(2), 2);
        Due.is("45: A slips READ", x.status(6), 1);
        Due.is("45: the last", x.draw(), 1);
        Due.is("47: SEED, one left too", x.status(8), 662824084);
        Due.is("45: all are READ", x.draw(), -5);
        Due.is("46: none left", x.evening(), 1);
        Due.is("46: SEED stays", x.status(8), 662824084);
        x.again();
        x.seed(1);
        x.read(true);
        Due.is("46: A, then BA or AB", x.evening(), 2 + (x.slip(1) == 1 ? 1 : 0));
        Due.is("46: all are READ", x.status(2), 3);
        AlwaysAhead y = new AlwaysAhead();
        y.heap(1, 6);
        y.seed(1103527590);
        Due.is("45: 38526 modulo 7 is no A", y.draw(), 0);
        AlwaysAhead z = new AlwaysAhead();
        z.heap(0, 3);
        z.heap(4, 0);
        Due.is("46: by HEAPS", z.evening(), 1);
        Due.is("46: no HEAPS", new AlwaysAhead().evening(), 0);
    }

    private static void seeds() {
        AlwaysAhead x = new AlwaysAhead();
        Due.is("47: 1 at first", x.seed(-5), 1);
        Due.is("47: seed(0)", x.seed(0), -5);
        Due.is("47: status(8)", x.status(8), 0);
        x.heap(1, 0);
        x.draw();
        Due.is("47: from 0", x.seed(Integer.MIN_VALUE), 12345);
        Due.is("47: status(8)", x.status(8), Integer.MIN_VALUE);
    }

    private static void images() {
        AlwaysAhead x = new AlwaysAhead();
        Due.is("49: nothing was kept", x.back(), -5);
        Due.drum(x, "heap 2 1;heap 1 1;swap 0 1;fact 1 2 3;read ab");
        x.seed(9);
        x.row(0, 2, 2);
        x.feed(65);
        Due.is("48: image()", x.image(), 1);
        x.again();
        x.swap(0, 1);
        x.heap(3, 3);
        x.forget(0);
        x.fact(0, 1, 1);
        x.fact(2, 2, 2);
        x.evening();
        x.row(1, 2, 2);
        x.feed(66);
        x.feed(256);
        int[] due = {2, 5, 2, 1, 3, 2, 1, 2, 9, 2, 0, -1, 1, 0, 0, 1, 0};
        for (int i = 0; i < 2; i++) {
            Due.is("49: back()", x.back(), 1);
            for (int what = 0; what < due.length; what++) {
                Due.is("49: status(" + what + ")", x.status(what), due[what]);
            }
            Due.is("49: ORDER", x.heapOf(1, 2), 0);
            Due.is("49: KIND", x.factOf(0, 0), 1);
            Due.is("49: t", x.factOf(0, 1), 2);
            Due.is("49: v", x.factOf(0, 2), 3);
            Due.is("49: READ", x.slip(0), 1);
            Due.is("49: READ", x.slip(1), 0);
            x.evening();
            x.forget(0);
        }
        Due.is("48: image() anew", x.image(), 1);
        x.again();
        x.back();
        Due.is("49: the newest", x.status(2), 5);
        AlwaysAhead y = new AlwaysAhead();
        y.image();
        y.heap(1, 1);
        y.read(true);
        y.back();
        Due.is("49: of nothing", y.status(0) + y.status(1) + y.status(2), 0);
        Due.is("49: a HEAP again", y.heap(2, 2), 0);
    }

    private static void status() {
        AlwaysAhead x = new AlwaysAhead();
        x.heap(10, 0);
        x.heap(10, 0);
        x.drawing(0, 1, 1);
        x.set(0, 0, 0);
        x.set(1, 0, 0);
        x.set(1, 0, 0);
        x.set(1, 0, 0);
        x.draw();
        for (int i = 0; i < 6; i++) {
            x.fact(0, 0, 0);
        }
        x.heap(5, 2);
        x.heap(1, 3);
        x.read(true);
        x.read(false);
        x.feed(1);
        int[] due = {2, 11, 2, 4, 6, 5, 1, 1, 1, 1, 0, -1, 2, 1, 3, 1, 2, -1};
        for (int what = 0; what < due.length; what++) {
            Due.is("50: status(" + what + ")", x.status(what), due[what]);
        }
        Due.is("50: status(-1)", x.status(-1), -1);
        Due.is("50: status(MAX)", x.status(Integer.MAX_VALUE), -1);
        Due.is("50: status(MIN)", x.status(Integer.MIN_VALUE), -1);
        Due.is("50: nothing is refused", x.status(12), 2);
        x.evening();
        Due.is("50: all are READ", x.status(10), -1);
    }
}
