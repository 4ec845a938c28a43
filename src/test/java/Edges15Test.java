/** Promise 15: each edge that the document names of TOKENS, STATEMENTS and the FAULT. */
public final class Edges15Test {
    public static void main(String[] args) {
        tokens();
        numbersTellTheirValue();
        bytesThatBeginNone();
        endsTooEarly();
        signs();
        words();
        heapNumbers();
        heapTogether();
        heapNoRoom();
        factNumbers();
        factNoRoom();
        readWords();
        swapPlaces();
        whileSlipsAreRead();
        allOrNothing();
        tapeIsEmptyThen();
        longTapes();
        Due.end("Edges15Test");
    }

    private static void fault(String what, String text, int place) {
        Edge.fault("15: " + what, Edge::empty, text, place);
    }

    /** THE TAPE comes to the same as these calls do. */
    private static void drum(String what, String text, int statements, Edge.Made others) {
        drum(what, Edge::empty, text, statements, others);
    }

    private static void drum(String what, Edge.Made made, String text, int statements, Edge.Made others) {
        Edge.Made fed = x -> {
            made.make(x);
            x.wipe();
            Due.feed(x, text);
        };
        Edge.comesTo("15: " + what + " '" + text + "'", fed, AlwaysAhead::drum, statements, x -> {
            x.wipe();
            others.make(x);
        });
    }

    private static void tokens() {
        drum("blanks stand between", "heap 1 2", 1, x -> x.heap(1, 2));
        drum("many blanks", "   heap    1    2    ", 1, x -> x.heap(1, 2));
        drum("no blank between WORD and NUMBER", "heap1 2", 1, x -> x.heap(1, 2));
        drum("no blank about the SIGN", "heap 1 2;fact0 1 2;read b", 3, x -> {
            x.heap(1, 2);
            x.fact(0, 1, 2);
            x.read(false);
        });
        drum("blanks about the SIGN", "heap 1 2  ;  fact 0 1 2", 2, x -> {
            x.heap(1, 2);
            x.fact(0, 1, 2);
        });
        fault("NUMBERS are as long as can be", "heap 12", 5);
        fault("WORDS are as long as can be", "heapread", 0);
        fault("a WORD goes on behind 'read'", "heap 1 1;reada", 9);
        fault("a blank parts a WORD", "he ap 1 1", 0);
        fault("a blank parts a NUMBER", "fact 0 2 4 0", 11);
        drum("digits begin behind a WORD", "fact3 24 24", 1, x -> x.fact(3, 24, 24));
        fault("a WORD may begin behind a NUMBER, not there", "heap 1a 1", 6);
    }

    private static void numbersTellTheirValue() {
        drum("one digit", "heap 9 0", 1, x -> x.heap(9, 0));
        drum("two digits", "heap 09 00", 1, x -> x.heap(9, 0));
        drum("two digits", "fact 03 10 24", 1, x -> x.fact(3, 10, 24));
        drum("two digits", "heap 1 1;heap 1 0;swap 00 01", 3, x -> {
            x.heap(1, 1);
            x.heap(1, 0);
            x.swap(0, 1);
        });
        fault("more than 2 digits", "heap 001 1", 5);
        fault("more than 2 digits", "heap 1 001", 7);
        fault("more than 2 digits", "heap 000 1", 5);
        fault("more than 2 digits", "fact 000 1 1", 5);
        fault("more than 2 digits", "fact 0 001 1", 7);
        fault("more than 2 digits", "fact 0 1 024", 9);
        fault("more than 2 digits", "heap 1 1;heap 1 1;swap 000 1", 23);
        fault("more than 2 digits", "heap 1 1;heap 1 1;swap 0 001", 25);
        fault("beyond an int", "heap 4294967297 1", 5);
        fault("beyond a long", "heap 18446744073709551617 1", 5);
    }

    private static void bytesThatBeginNone() {
        for (int letter = 0; letter < 256; letter++) {
            char sign = (char) letter;
            boolean isBlank = letter == 32;
            if (sign >= 'a' && sign <= 'z' || sign >= '0' && sign <= '9' || isBlank || sign == ';') {
                continue;
            }
            AlwaysAhead x = new AlwaysAhead();
            Due.is("15: byte " + letter + " begins none, at first", Due.drum(x, sign + "heap 1 1"), -20);
            Due.is("15: byte " + letter + " begins none, in between", Due.drum(x, "heap 1" + sign + "1"), -26);
            Due.is("15: byte " + letter + " begins none, at the end", Due.drum(x, "heap 1 1 " + sign), -29);
            Due.is("15: byte " + letter + " ends a WORD", Due.drum(x, "heap" + sign), -24);
            Due.is("15: refused, BAD", x.status(12), 4);
        }
        fault("the first FAULT is told", "heap 1 # heap", 7);
        fault("the first FAULT is told", "heap x #", 5);
    }

    private static void endsTooEarly() {
        fault("an empty tape", "", 0);
        fault("blanks alone", "   ", 3);
        fault("behind heap", "heap", 4);
        fault("behind heap and a blank", "heap ", 5);
        fault("behind A", "heap 1", 6);
        fault("behind A and blanks", "heap 1  ", 8);
        fault("behind fact", "fact", 4);
        fault("behind K", "fact 0", 6);
        fault("behind T", "fact 0 1", 8);
        fault("behind T and a blank", "fact 0 1 ", 9);
        fault("behind read", "read", 4);
        fault("behind read, where no slip is", "read ", 5);
        fault("behind swap", "heap 1 1;heap 1 1;swap", 22);
        fault("behind I", "heap 1 1;heap 1 1;swap 0", 24);
        fault("behind the SIGN", "heap 1 1;", 9);
        fault("behind the SIGN and a blank", "heap 1 1; ", 10);
    }

    private static void signs() {
        fault("a SIGN alone", ";", 0);
        fault("a SIGN first", " ;heap 1 1", 1);
        fault("two SIGNS", "heap 1 1;;heap 1 1", 9);
        fault("two SIGNS at the end", "heap 1 1;;", 9);
        fault("no SIGN between", "heap 1 1 heap 1 1", 9);
        fault("no SIGN between, a NUMBER", "heap 1 1 1", 9);
        fault("no SIGN between, behind fact", "fact 0 1 1 1", 11);
        fault("no SIGN between, behind read", "heap 1 1;read a b", 16);
        fault("no SIGN between, behind swap", "heap 1 1;heap 1 1;swap 0 1 0", 27);
        fault("a SIGN for A", "heap ;", 5);
        fault("a SIGN for B", "heap 1;1", 6);
        fault("a SIGN for K", "fact;", 4);
        fault("a SIGN for T", "fact 0;", 6);
        fault("a SIGN for V", "fact 0 1;", 8);
        fault("a SIGN for W", "heap 1 1;read ;", 14);
        fault("a SIGN for I", "heap 1 1;heap 1 1;swap ;", 23);
        fault("a SIGN for J", "heap 1 1;heap 1 1;swap 0;", 24);
    }

    private static void words() {
        fault("no such WORD", "hea 1 1", 0);
        fault("no such WORD", "heaps 1 1", 0);
        fault("no such WORD", "heaq 1 1", 0);
        fault("no such WORD", "facts 0 0 0", 0);
        fault("no such WORD", "fac 0 0 0", 0);
        fault("no such WORD", "heap 1 1;rea a", 9);
        fault("no such WORD", "heap 1 1;reads a", 9);
        fault("no such WORD", "heap 1 1;heap 1 1;swa 0 1", 18);
        fault("no such WORD", "heap 1 1;heap 1 1;swaps 0 1", 18);
        fault("capitals", "Heap 1 1", 0);
        fault("capitals", "heaP 1 1", 0);
        fault("a NUMBER for a WORD", "1 1", 0);
        fault("letters a and b stand behind read only", "ab", 0);
        fault("letters a and b stand behind read only", "heap 1 1;a", 9);
        fault("letters a and b stand behind read only", "heap a 1", 5);
        fault("letters a and b stand behind read only", "heap 1 b", 7);
        fault("letters a and b stand behind read only", "fact a 1 1", 5);
        fault("letters a and b stand behind read only", "heap 1 1;heap 1 1;swap 0 b", 25);
        fault("a WORD for a NUMBER", "heap heap 1", 5);
    }

    private static void heapNumbers() {
        fault("A is 0 to 9", "heap 10 1", 5);
        fault("A is 0 to 9", "heap 99 1", 5);
        fault("B is 0 to 9", "heap 1 10", 7);
        fault("B is 0 to 9", "heap 1 99", 7);
        fault("A comes first", "heap 10 10", 5);
        fault("A comes ahead of the end", "heap 10", 5);
        fault("no sign of minus", "heap -1 1", 5);
        drum("A alone", "heap 1 0", 1, x -> x.heap(1, 0));
        drum("B alone", "heap 0 1", 1, x -> x.heap(0, 1));
        drum("9 and 9", "heap 9 9", 1, x -> x.heap(9, 9));
    }

    private static void heapTogether() {
        fault("none together", "heap 0 0", 7);
        fault("none together, two digits", "heap 00 00", 8);
        fault("25 slips", "heap 9 9;heap 3 4", 16);
        fault("25 slips, A is enough", "heap 9 9;heap 7 0", 16);
        fault("36 slips", "heap 9 9;heap 9 9", 16);
        fault("24 slips are there", "heap 9 9;heap 6 0;heap 0 1", 25);
        fault("too many comes ahead of what follows", "heap 9 9;heap 6 1 1", 16);
        fault("the end comes ahead of too many", "heap 9 9;heap 9", 15);
        fault("a NUMBER that may not be comes ahead of too many", "heap 9 9;heap 10 9", 14);
        drum("24 slips", "heap 9 9;heap 3 3", 2, x -> {
            x.heap(9, 9);
            x.heap(3, 3);
        });
        drum("24 slips in four HEAPS", "heap 9 9;heap 1 1;heap 1 1;heap 1 1", 4, x -> {
            x.heap(9, 9);
            x.heap(1, 1);
            x.heap(1, 1);
            x.heap(1, 1);
        });
        Edge.fault("15: slips that were there count", x -> x.heap(9, 9), "heap 7 0", 7);
    }

    private static void heapNoRoom() {
        String four = "heap 1 0;heap 1 0;heap 1 0;heap 1 0";
        fault("no room for a fifth HEAP: its word", four + ";heap 1 0", 36);
        fault("its word comes ahead of its NUMBERS", four + "; heap 10 0", 37);
        fault("its word comes ahead of too many slips", "heap 9 9;heap 1 0;heap 1 0;heap 1 0;heap 9 9", 36);
        fault("its word comes ahead of none together", four + ";heap 0 0", 36);
        fault("its word comes ahead of the end", four + ";heap", 36);
        Edge.fault("15: HEAPS that were there count", Edge::full, "heap 1 0", 0);
        Edge.fault("15: HEAPS that were there count", x -> {
            x.heap(1, 1);
            x.heap(1, 1);
            x.heap(1, 1);
        }, "heap 1 1;heap 1 1", 9);
    }

    private static void factNumbers() {
        fault("K is 0 to 3", "fact 4 0 0", 5);
        fault("K is 0 to 3", "fact 99 0 0", 5);
        fault("T is 0 to 24", "fact 0 25 0", 7);
        fault("T is 0 to 24", "fact 0 99 0", 7);
        fault("V is 0 to 24", "fact 0 0 25", 9);
        fault("V is 0 to 24", "fact 3 0 99", 9);
        fault("V is 0 to 24, of LEVEL too", "fact 2 0 25", 9);
        drum("0", "fact 0 0 0", 1, x -> x.fact(0, 0, 0));
        drum("24", "fact 3 24 24", 1, x -> x.fact(3, 24, 24));
        drum("from t to a MOMENT before it", "fact 1 24 0", 1, x -> x.fact(1, 24, 0));
    }

    private static void factNoRoom() {
        String four = "fact 0 0 0;fact 1 0 0;fact 2 0 0;fact 3 0 0";
        drum("four FACTS", four, 4, x -> {
            for (int kind = 0; kind < 4; kind++) {
                x.fact(kind, 0, 0);
            }
        });
        fault("no room for a fifth FACT: its word", four + ";fact 0 0 0", 44);
        fault("its word comes ahead of its NUMBERS", four + ";fact 4 0 0", 44);
        fault("its word comes ahead of the end", four + ";fact", 44);
        Edge.fault("15: FACTS that were there count", Edge::full, "fact 0 0 0", 0);
        Edge.fault("15: FACTS that were there count", Edge::busy, "fact 0 0 0;fact 0 0 0;fact 0 0 0", 22);
    }

    private static void readWords() {
        fault("other letters", "heap 9 9;read c", 14);
        fault("other letters behind a and b", "heap 9 9;read abc", 14);
        fault("other letters ahead of a and b", "heap 9 9;read cab", 14);
        fault("other letters behind slips that aren't there", "heap 1 1;read aac", 14);
        fault("a WORD of STATEMENTS", "heap 9 9;read read", 14);
        fault("a NUMBER for W", "heap 9 9;read 1", 14);
        fault("the slip isn't there: A", "heap 0 1;read a", 14);
        fault("the slip isn't there: B", "heap 1 0;read b", 14);
        fault("the last slip isn't there", "heap 2 1;read abaa", 14);
        fault("beyond all", "heap 1 1;read abb", 14);
        fault("no HEAPS", "read a", 5);
        fault("in the HEAP drawn then alone", "heap 1 0;heap 0 1;read b", 23);
        fault("in the HEAP drawn then alone", "heap 1 1;heap 2 0;read aaab", 23);
        fault("a second read goes on", "heap 1 1;read a;read a", 21);
        drum("all slips", "heap 1 1;heap 0 2;read babb", 3, x -> {
            x.heap(1, 1);
            x.heap(0, 2);
            x.read(false);
            x.read(true);
            x.read(false);
            x.read(false);
        });
        drum("24 slips", "heap 9 9;heap 3 3;read aaaaaaaaabbbbbbbbbababab", 3, x -> {
            x.heap(9, 9);
            x.heap(3, 3);
            for (int i = 0; i < 18; i++) {
                x.read(i < 9);
            }
            for (int i = 0; i < 6; i++) {
                x.read(i % 2 == 0);
            }
        });
        drum("one after the other", "heap 2 1;read a;read ba", 3, x -> {
            x.heap(2, 1);
            x.read(true);
            x.read(false);
            x.read(true);
        });
        drum("by ORDER", "heap 1 0;heap 0 1;swap 1 0;read ba", 4, x -> {
            x.heap(1, 0);
            x.heap(0, 1);
            x.swap(0, 1);
            x.read(false);
            x.read(true);
        });
        drum("whatever is remembered", "heap 0 1;fact 1 0 24;read b", 3, x -> {
            x.heap(0, 1);
            x.fact(1, 0, 24);
            x.read(false);
        });
    }

    private static void swapPlaces() {
        fault("no HEAPS", "swap 0 1", 5);
        fault("one HEAP: J", "heap 1 1;swap 0 1", 16);
        fault("one HEAP: I", "heap 1 1;swap 1 0", 14);
        fault("two places, unlike", "heap 1 1;swap 0 0", 16);
        fault("two places, unlike", "heap 1 1;heap 1 1;swap 1 01", 25);
        fault("no such place: I", "heap 1 1;heap 1 1;swap 2 0", 23);
        fault("no such place: J", "heap 1 1;heap 1 1;swap 0 2", 25);
        fault("no such place: I comes first", "heap 1 1;heap 1 1;swap 2 2", 23);
        drum("the first and the last", "heap 1 0;heap 2 0;heap 3 0;heap 4 0;swap 0 3", 5, x -> {
            for (int a = 1; a <= 4; a++) {
                x.heap(a, 0);
            }
            x.swap(0, 3);
        });
        drum("the last and the first", "heap 1 0;heap 2 0;swap 1 0", 3, x -> {
            x.heap(1, 0);
            x.heap(2, 0);
            x.swap(0, 1);
        });
    }

    private static void whileSlipsAreRead() {
        Edge.fault("15: heap can't be while slips are READ: its word", Edge::reading, " heap 1 1", 1);
        Edge.fault("15: heap: its word comes ahead of its NUMBERS", Edge::reading, "heap 10", 0);
        Edge.fault("15: heap: its word comes ahead of the end", Edge::reading, "heap", 0);
        Edge.fault("15: swap can't be while slips are READ: its word", Edge::reading, " swap 0 1", 1);
        Edge.fault("15: swap: its word comes ahead of its NUMBERS", Edge::reading, "swap 9 9", 0);
        Edge.fault("15: swap: its word comes ahead of the end", Edge::reading, "swap", 0);
        fault("slips READ by THE TAPE itself: heap", "heap 1 1;read a;heap 1 1", 16);
        fault("slips READ by THE TAPE itself: swap", "heap 1 1;heap 1 1;read a;swap 0 1", 25);
        drum("fact can be while slips are READ", Edge::reading, "fact 1 2 3", 1, x -> x.fact(1, 2, 3));
        drum("read can be while slips are READ", Edge::reading, "read baab", 1, x -> {
            x.read(false);
            x.read(true);
            x.read(true);
            x.read(false);
        });
    }

    private static void allOrNothing() {
        String good = "heap 1 1;swap 0 3;fact 1 2 3;read ba;";
        Edge.fault("15: all or nothing", Edge::busy, good, good.length());
        Edge.fault("15: all or nothing", Edge::busy, good + "x", good.length());
        Edge.fault("15: all or nothing", Edge::busy, good + "read bb", good.length() + 5);
        Edge.fault("15: half a word of slips", Edge::busy, "read bbaaa", 5);
        Edge.fault("15: half a word of slips", Edge::reading, "read bbb", 5);
        drum("all of it, with what there is", Edge::busy, good + "fact 0 0 0", 5, x -> {
            x.heap(1, 1);
            x.swap(0, 3);
            x.fact(1, 2, 3);
            x.read(false);
            x.read(true);
            x.fact(0, 0, 0);
        });
    }

    private static void tapeIsEmptyThen() {
        AlwaysAhead x = new AlwaysAhead();
        Due.is("15: a DRUM", Due.drum(x, "heap 1 1"), 1);
        Due.is("15: THE TAPE is empty then", x.status(7), 0);
        Due.is("15: nothing is read once more", x.drum(), -20);
        Due.is("15: a FAULT", Due.drum(x, "heap 1 1;"), -29);
        Due.is("15: THE TAPE is empty then, too", x.status(7), 0);
        Due.is("15: nothing is read once more", x.drum(), -20);
        Due.is("15: refused, BAD", x.status(12), 3);
        Due.is("15: no other", x.status(13) + x.status(14) + x.status(15) + x.status(16), 0);
        Due.is("15: one HEAP", x.status(0), 1);
    }

    private static void longTapes() {
        fault("the FAULT is THE TAPE's size of 250", " ".repeat(250), 250);
        fault("the FAULT is the last byte of 250", " ".repeat(249) + ";", 249);
        fault("a WORD of 250", "a".repeat(250), 0);
        fault("a NUMBER of 245", "heap " + "0".repeat(245), 5);
        drum("a STATEMENT at the end of 250", " ".repeat(242) + "heap 1 1", 1, x -> x.heap(1, 1));
        // one slip READ by each: as many STATEMENTS as slips and two HEAPS more
        StringBuilder text = new StringBuilder("heap 9 9;heap 3 3");
        for (int i = 0; i < 24; i++) {
            text.append(i % 2 == 0 ? ";read a" : ";read b");
        }
        drum("26 STATEMENTS", text.toString(), 26, x -> {
            x.heap(9, 9);
            x.heap(3, 3);
            for (int i = 0; i < 24; i++) {
                x.read(i % 2 == 0);
            }
        });
        // 28 swaps: both places are as they were
        drum("30 STATEMENTS", "heap 1 0;heap 0 1" + ";swap0 1".repeat(28), 30, x -> {
            x.heap(1, 0);
            x.heap(0, 1);
        });
        fault("the 31st of them", "heap 1 0;heap 0 1" + ";swap0 1".repeat(28) + ";read b", 247);
    }
}
