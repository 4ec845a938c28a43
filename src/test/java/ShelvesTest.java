/** Promises 1 to 8 and 37: SHELVES, ROWS and DRAWINGS. */
public final class ShelvesTest {
    public static void main(String[] args) {
        newObject();
        rowsAndElements();
        elementsKeepTheirLowestBits();
        copies();
        drawings();
        kindsUnderKinds();
        whatDrawingsSay();
        drawingsOfNothing();
        heads();
        Due.end("ShelvesTest");
    }

    private static void newObject() {
        AlwaysAhead x = new AlwaysAhead();
        int[] due = {0, 0, 0, 0, 0, 0, 0, 0, 1, 0, -1, -1, 0, 0, 0, 0, 0, -1};
        for (int what = 0; what < due.length; what++) {
            Due.is("1: status(" + what + ")", x.status(what), due[what]);
        }
        for (int s = 0; s < 8; s++) {
            Due.is("1: holds(" + s + ")", x.holds(s), AlwaysAhead.NONE);
        }
        Due.is("1: back()", x.back(), -5);
        Due.is("1: rows()", x.rows(), 1);
        Due.is("1: wipe()", x.wipe(), 0);
    }

    private static void rowsAndElements() {
        AlwaysAhead x = new AlwaysAhead();
        Due.is("2: row(0, 0, 0)", x.row(0, 0, 0), 1);
        Due.is("2: row(7, 4, 40)", x.row(7, 4, 40), 1);
        Due.is("2: row(8, 0, 1)", x.row(8, 0, 1), -2);
        Due.is("2: row(-1, 0, 1)", x.row(-1, 0, 1), -2);
        Due.is("2: row(0, 5, 1)", x.row(0, 5, 1), -2);
        Due.is("2: row(0, -1, 1)", x.row(0, -1, 1), -2);
        Due.is("2: row(0, 0, 41)", x.row(0, 0, 41), -2);
        Due.is("2: row(0, 0, -1)", x.row(0, 0, -1), -2);
        Due.is("2: status(12)", x.status(12), 6);
        Due.is("2: status(9)", x.status(9), 2);
        Due.is("3: set(0, 0, 1)", x.set(0, 0, 1), -2);
        Due.is("3: set(7, 39, 5)", x.set(7, 39, 5), 1);
        Due.is("3: set(7, 40, 5)", x.set(7, 40, 5), -2);
        Due.is("3: set(7, -1, 5)", x.set(7, -1, 5), -2);
        Due.is("3: set(8, 0, 5)", x.set(8, 0, 5), -2);
        Due.is("3: set(1, 50, 5)", x.set(1, 50, 5), -4);
        x.drawing(1, 1, 1);
        Due.is("3: set(1, 50, 5)", x.set(1, 50, 5), -3);
        Due.is("5: element(7, 39)", x.element(7, 39), 1);
        Due.is("5: element(7, 0)", x.element(7, 0), 0);
        int refusals = x.status(12) + x.status(13) + x.status(14);
        Due.is("5: element(7, 40)", x.element(7, 40), 0);
        Due.is("5: element(1, 0)", x.element(1, 0), 0);
        Due.is("5: element(2, 0)", x.element(2, 0), 0);
        Due.is("5: element(-1, 0)", x.element(-1, 0), 0);
        Due.is("5: element(7, MIN)", x.element(7, Integer.MIN_VALUE), 0);
        Due.is("5: nothing is refused", x.status(12) + x.status(13) + x.status(14), refusals);
        x.row(7, 2, 40);
        Due.is("2: a new ROW is of 0", x.element(7, 39), 0);
    }

    private static void elementsKeepTheirLowestBits() {
        AlwaysAhead x = new AlwaysAhead();
        long v = 0x123456789ABCDEF0L;
        long[] due = {(byte) 0xF0, (short) 0xDEF0, 0x9ABCDEF0, v, 1};
        for (int sort = 0; sort < 5; sort++) {
            x.row(sort, sort, 2);
            x.set(sort, 1, v);
            Due.is("3: element of SORT " + sort, x.element(sort, 1), due[sort]);
            Due.is("6: holds(" + sort + ")", x.holds(sort), sort);
            x.set(sort, 1, 0);
            Due.is("3: 0 of SORT " + sort, x.element(sort, 1), 0);
        }
        x.set(4, 0, 256);
        Due.is("3: 256 is true", x.element(4, 0), 1);
        x.set(0, 0, 257);
        Due.is("3: 257 as a byte", x.element(0, 0), 1);
        Due.is("6: holds(8)", x.holds(8), -1);
        Due.is("6: holds(-1)", x.holds(-1), -1);
        Due.is("6: nothing is refused", x.status(12), 0);
    }

    private static void copies() {
        AlwaysAhead x = new AlwaysAhead();
        Due.row(x, 0, 1, 2, 3, 4, 5);
        Due.row(x, 1, 9, 9, 9);
        Due.is("4: copy(0, 1, 2, 0, 3)", x.copy(0, 1, 2, 0, 3), 3);
        Due.is("4: element(1, 2)", x.element(1, 2), 5);
        Due.is("4: copy(0, 0, 0, 1, 4)", x.copy(0, 0, 0, 1, 4), 4);
        long[] due = {1, 1, 2, 3, 4};
        for (int i = 0; i < 5; i++) {
            Due.is("4: as they were, " + i, x.element(0, i), due[i]);
        }
        Due.is("4: none", x.copy(0, 1, 5, 3, 0), 0);
        Due.is("4: behind p", x.copy(0, 1, 6, 0, 0), -2);
        Due.is("4: behind q", x.copy(0, 1, 0, 4, 0), -2);
        Due.is("4: too many of p", x.copy(1, 0, 1, 0, 3), -2);
        Due.is("4: too many of q", x.copy(0, 1, 0, 1, 3), -2);
        Due.is("4: n below 0", x.copy(0, 1, 1, 1, -1), -2);
        Due.is("4: i below 0", x.copy(0, 1, -1, 0, 1), -2);
        Due.is("4: j below 0", x.copy(0, 1, 0, -1, 1), -2);
        Due.is("4: great n", x.copy(0, 1, 1, 1, Integer.MAX_VALUE), -2);
        Due.is("4: great i", x.copy(0, 1, Integer.MAX_VALUE, 0, 1), -2);
        x.row(2, 3, 3);
        Due.is("4: two SORTS, bad n", x.copy(0, 2, 0, 0, -1), -3);
        Due.is("4: NOTHING", x.copy(0, 3, 0, 0, 1), -4);
        Due.is("4: NOTHING", x.copy(3, 0, 0, 0, 1), -4);
        x.drawing(4, 1, 1);
        Due.is("4: a DRAWING and NOTHING", x.copy(3, 4, 0, 0, 1), -3);
        Due.is("4: a DRAWING", x.copy(4, 0, 0, 0, 1), -3);
        Due.is("4: no SHELF", x.copy(4, 8, 0, 0, 1), -2);
        Due.is("4: no SHELF", x.copy(-1, 4, 0, 0, 1), -2);
    }

    private static void drawings() {
        AlwaysAhead x = new AlwaysAhead();
        x.row(3, 2, 9);
        for (int kind = 1; kind <= 6; kind++) {
            Due.is("7: drawing(3, " + kind + ", 0)", x.drawing(3, kind, 0), 1);
            Due.is("6: holds(3)", x.holds(3), 10 + kind);
        }
        Due.is("7: a 9", x.drawing(7, 6, 9), 1);
        Due.is("7: a 10", x.drawing(7, 6, 10), -2);
        Due.is("7: a -1", x.drawing(7, 6, -1), -2);
        Due.is("7: KIND 0", x.drawing(7, 0, 1), -2);
        Due.is("7: KIND 7", x.drawing(7, 7, 1), -2);
        Due.is("7: KIND -1", x.drawing(7, -1, 1), -2);
        Due.is("7: SHELF 8", x.drawing(8, 1, 1), -2);
        Due.is("7: nothing has changed", x.says(7, 0), 9);
        Due.is("7: status(9)", x.status(9), 2);
        Due.is("7: status(12)", x.status(12), 6);
    }

    private static void kindsUnderKinds() {
        AlwaysAhead x = new AlwaysAhead();
        x.heap(2, 1);
        boolean[][] isUnder = new boolean[7][7];
        int[] above = {-1, 0, 1, 2, 2, 2, 1};
        for (int kind = 1; kind <= 6; kind++) {
            for (int up = kind; up >= 0; up = above[up]) {
                isUnder[kind][up] = true;
            }
            x.drawing(0, kind, 1);
            int own = x.says(0, kind);
            for (int wanted = 1; wanted <= 6; wanted++) {
                Due.is("8: KIND " + kind + " as " + wanted, x.says(0, wanted), isUnder[kind][wanted] ? own : -3);
            }
            Due.is("8: KIND " + kind + " as 0", x.says(0, 0), 1);
            Due.is("8: KIND " + kind + " as 7", x.says(0, 7), -2);
            Due.is("8: KIND " + kind + " as -1", x.says(0, -1), -2);
        }
        Due.is("8: NOTHING", x.says(1, 1), -4);
        Due.is("8: no SHELF", x.says(8, 1), -2);
        x.row(1, 0, 1);
        Due.is("8: a ROW", x.says(1, 0), -3);
    }

    private static int saying(AlwaysAhead x, int kind, int a) {
        x.drawing(5, kind, a);
        return x.says(5, kind);
    }

    private static void whatDrawingsSay() {
        AlwaysAhead x = new AlwaysAhead();
        x.heap(2, 1);
        // AAB, ABA, BAA
        int[][] due = {{2, 1, 0}, {2, 1, 0}, {3, 1, 0}, {2, 1, 0}, {2, 1, 1}, {3, 3, 2}};
        for (int kind = 1; kind <= 6; kind++) {
            for (int a = 0; a < 3; a++) {
                Due.is("8: KIND " + kind + " by " + a, saying(x, kind, a), due[kind - 1][a]);
            }
        }
        AlwaysAhead y = new AlwaysAhead();
        Due.drum(y, "heap 1 1; heap 2 0; fact 2 1 0; read b");
        // ABAA, BAAA; shaken AABA, AAAB too
        int[][] due2 = {{3, 2, 1}, {1, 0, 0}, {2, 0, 0}, {2, 2, 1}, {1, 0, 0}, {4, 4, 4}};
        for (int kind = 1; kind <= 6; kind++) {
            for (int a = 0; a < 3; a++) {
                Due.is("8: of two HEAPS, KIND " + kind + " by " + a, saying(y, kind, a), due2[kind - 1][a]);
            }
        }
        Due.is("8: ONCE by 3", saying(y, 6, 3), 3);
        y.again();
        y.swap(0, 1);
        // AAAB, AABA
        Due.is("8: HEAPED by ORDER", saying(y, 2, 1), 2);
        Due.is("8: BACK by ORDER", saying(y, 4, 1), 0);
        AlwaysAhead z = new AlwaysAhead();
        z.heap(9, 3);
        z.heap(6, 6);
        // (a - kb) of (a + b), of 1307504
        Due.is("8: SHAKEN 15 to 9", saying(z, 1, 1), 326876);
        AlwaysAhead b = new AlwaysAhead();
        b.heap(0, 1);
        Due.is("8: SURELY, B alone", saying(b, 5, 0), 0);
        Due.is("8: TWOS, at the end too", saying(b, 3, 0), 0);
        AlwaysAhead c = new AlwaysAhead();
        c.heap(4, 3);
        // by 1, sure at the fourth A: AAAABBB, AAABABB, AABAABB, AAABBAB, AABABAB are ahead until then
        Due.is("8: SURELY 4 to 3", saying(c, 5, 1), 5);
        Due.is("8: HEAPED 4 to 3", saying(c, 2, 1), 5);
        // by 3, only AAAABBB is ahead until the fourth A
        Due.is("8: SURELY 4 to 3 by 3", saying(c, 5, 3), 1);
        Due.is("8: HEAPED 4 to 3 by 3", saying(c, 2, 3), 0);
    }

    private static void drawingsOfNothing() {
        AlwaysAhead x = new AlwaysAhead();
        for (int kind = 1; kind <= 6; kind++) {
            Due.is("8: no HEAPS, KIND " + kind, saying(x, kind, 1), kind == 6 ? 0 : 1);
        }
    }

    private static void heads() {
        AlwaysAhead x = new AlwaysAhead();
        x.heap(2, 1);
        x.row(0, 0, 3);
        Due.is("37: head()", x.head(), -5);
        Due.is("37: status(15)", x.status(15), 1);
        x.drawing(6, 2, 9);
        Due.is("37: head()", x.head(), 6);
        x.drawing(7, 2, 1);
        Due.is("37: head()", x.head(), 7);
        x.drawing(2, 5, 2);
        Due.is("37: of several the first", x.head(), 2);
        x.drawing(4, 6, 2);
        Due.is("37: head()", x.head(), 4);
        x.drawing(0, 6, 1);
        Due.is("37: head()", x.head(), 0);
    }
}
