/** Counts the answers that are not due, and ends a test. */
final class Due {
    private static int asked = 0;
    private static int wrong = 0;

    private Due() {
    }

    static void is(String call, long got, long want) {
        asked++;
        if (got != want) {
            wrong++;
            System.out.println(call + " answered " + got + ", due is " + want);
        }
    }

    static void isTrue(String what, boolean holds) {
        is(what, holds ? 1 : 0, 1);
    }

    static int wrongSoFar() {
        return wrong;
    }

    /** Feeds a text to THE TAPE and reads it as a DRUM. */
    static int drum(AlwaysAhead x, String text) {
        feed(x, text);
        return x.drum();
    }

    static void feed(AlwaysAhead x, String text) {
        for (int i = 0; i < text.length(); i++) {
            x.feed(text.charAt(i));
        }
    }

    /** Puts a new ROW of ints into a SHELF. */
    static void row(AlwaysAhead x, int s, long... elements) {
        x.row(s, 2, elements.length);
        for (int i = 0; i < elements.length; i++) {
            x.set(s, i, elements[i]);
        }
    }

    static void end(String test) {
        System.out.println(test + ": " + asked + " answers, " + wrong + " not as due");
        if (wrong != 0 || asked == 0) {
            System.exit(1);
        }
    }
}
