import java.util.ArrayList;
import java.util.HashMap;
import java.util.List;
import java.util.Map;

/**
 * The document once more, as slowly and plainly as can be: every ROW is written out and looked at.
 * Nothing of AlwaysAhead is used, so that the two can be held against each other.
 */
final class Model {
    static final int NONE = -1;

    private static final class State {
        List<int[]> heaps = new ArrayList<>();
        List<Integer> order = new ArrayList<>();
        List<Integer> read = new ArrayList<>();
        List<int[]> facts = new ArrayList<>();
        int seed = 1;

        State copy() {
            State other = new State();
            for (int[] heap : heaps) other.heaps.add(heap.clone());
            other.order.addAll(order);
            other.read.addAll(read);
            for (int[] fact : facts) other.facts.add(fact.clone());
            other.seed = seed;
            return other;
        }
    }

    private static final class Thing {
        boolean isRow;
        int sort;
        long[] elements;
        int kind;
        int a;
    }

    private State state = new State();
    private State kept = null;
    private final Thing[] shelves = new Thing[8];
    private StringBuilder tape = new StringBuilder();
    private final int[] refused = new int[7];
    private final Map<String, List<int[]>> cache = new HashMap<>();

    private int no(int number) {
        refused[-number]++;
        return number;
    }

    // ---- rows ----

    private int n() {
        int n = 0;
        for (int[] heap : state.heaps) n += heap[0] + heap[1];
        return n;
    }

    private int all(int which) {
        int n = 0;
        for (int[] heap : state.heaps) n += heap[which];
        return n;
    }

    private List<int[]> orderedHeaps(List<Integer> order) {
        List<int[]> heaps = new ArrayList<>();
        for (int heap : order) heaps.add(state.heaps.get(heap));
        return heaps;
    }

    private List<int[]> written(List<int[]> heaps) {
        StringBuilder key = new StringBuilder();
        for (int[] heap : heaps) key.append(heap[0]).append(',').append(heap[1]).append(';');
        List<int[]> rows = cache.get(key.toString());
        if (rows == null) {
            if (cache.size() > 60) cache.clear();
            rows = new ArrayList<>();
            int n = 0;
            for (int[] heap : heaps) n += heap[0] + heap[1];
            List<int[]> left = new ArrayList<>();
            for (int[] heap : heaps) left.add(heap.clone());
            write(left, 0, new int[n], 0, rows);
            cache.put(key.toString(), rows);
        }
        return rows;
    }

    private void write(List<int[]> left, int place, int[] row, int i, List<int[]> rows) {
        if (place == left.size()) {
            rows.add(row.clone());
            return;
        }
        int[] heap = left.get(place);
        if (heap[0] + heap[1] == 0) {
            write(left, place + 1, row, i, rows);
            return;
        }
        for (int slip = 0; slip <= 1; slip++) {
            int which = slip == 1 ? 0 : 1;
            if (heap[which] > 0) {
                heap[which]--;
                row[i] = slip;
                write(left, place, row, i + 1, rows);
                heap[which]++;
            }
        }
    }

    private List<int[]> heapedRows() {
        return written(orderedHeaps(state.order));
    }

    private List<int[]> shakenRows() {
        List<int[]> one = new ArrayList<>();
        one.add(new int[] {all(0), all(1)});
        return written(one);
    }

    private static int aAt(int[] row, int t) {
        int a = 0;
        for (int i = 0; i < t; i++) a += row[i];
        return a;
    }

    private static int leadAt(int[] row, int t) {
        return aAt(row, t) - (t - aAt(row, t));
    }

    private boolean factHoldsAt(int[] fact, int[] row, int t) {
        int lead = leadAt(row, t);
        switch (fact[0]) {
            case 0: return t != fact[1] || aAt(row, t) == fact[2];
            case 1: return t < fact[1] || t > fact[2] || lead > 0;
            case 2: return t != fact[1] || lead == 0;
            default: return t < fact[1] || t > fact[2] || lead >= 0;
        }
    }

    private boolean fits(int[] row) {
        for (int i = 0; i < state.read.size(); i++) if (row[i] != state.read.get(i)) return false;
        for (int[] fact : state.facts) {
            for (int t = 0; t <= row.length; t++) if (!factHoldsAt(fact, row, t)) return false;
        }
        return true;
    }

    private List<int[]> fitting() {
        List<int[]> rows = new ArrayList<>();
        for (int[] row : heapedRows()) if (fits(row)) rows.add(row);
        return rows;
    }

    private static boolean aheadAt(int[] row, int t, int k) {
        int a = aAt(row, t);
        return a > k * (t - a);
    }

    private static boolean aheadAll(int[] row, int k) {
        for (int t = 1; t <= row.length; t++) if (!aheadAt(row, t, k)) return false;
        return true;
    }

    private static int levels(int[] row) {
        int m = 0;
        for (int t = 1; t <= row.length; t++) if (leadAt(row, t) == 0) m++;
        return m;
    }

    private static int aheads(int[] row) {
        int m = 0;
        for (int t = 1; t <= row.length; t++) if (leadAt(row, t) > 0) m++;
        return m;
    }

    private static int lastLevel(int[] row) {
        int last = 0;
        for (int t = 1; t <= row.length; t++) if (leadAt(row, t) == 0) last = t;
        return last;
    }

    private static int greatestLead(int[] row) {
        int greatest = 0;
        for (int t = 0; t <= row.length; t++) greatest = Math.max(greatest, leadAt(row, t));
        return greatest;
    }

    private static int sureAt(int[] row) {
        for (int t = 0; t <= row.length; t++) {
            if (Math.abs(leadAt(row, t)) > row.length - t) return t;
        }
        return row.length;
    }

    // ---- shelves ----

    private static boolean within(int x, int from, int to) {
        return from <= x && x <= to;
    }

    private static boolean shelf(int s) {
        return within(s, 0, 7);
    }

    int row(int s, int sort, int n) {
        if (!shelf(s) || !within(sort, 0, 4) || !within(n, 0, 40)) return no(-2);
        shelves[s] = new Thing();
        shelves[s].isRow = true;
        shelves[s].sort = sort;
        shelves[s].elements = new long[n];
        return 1;
    }

    int set(int s, int i, long v) {
        if (!shelf(s)) return no(-2);
        if (shelves[s] != null && !shelves[s].isRow) return no(-3);
        if (shelves[s] == null) return no(-4);
        if (!within(i, 0, shelves[s].elements.length - 1)) return no(-2);
        long[] cut = {(byte) v, (short) v, (int) v, v, v != 0 ? 1 : 0};
        shelves[s].elements[i] = cut[shelves[s].sort];
        return 1;
    }

    int copy(int p, int q, int i, int j, int n) {
        if (!shelf(p) || !shelf(q)) return no(-2);
        Thing one = shelves[p];
        Thing two = shelves[q];
        if (one != null && !one.isRow || two != null && !two.isRow) return no(-3);
        if (one != null && two != null && one.sort != two.sort) return no(-3);
        if (one == null || two == null) return no(-4);
        if (i < 0 || j < 0 || n < 0 || (long) i + n > one.elements.length) return no(-2);
        if ((long) j + n > two.elements.length) return no(-2);
        long[] were = one.elements.clone();
        for (int x = 0; x < n; x++) two.elements[j + x] = were[i + x];
        return n;
    }

    long element(int s, int i) {
        if (!shelf(s) || shelves[s] == null || !shelves[s].isRow) return 0;
        return within(i, 0, shelves[s].elements.length - 1) ? shelves[s].elements[i] : 0;
    }

    int holds(int s) {
        if (!shelf(s) || shelves[s] == null) return NONE;
        return shelves[s].isRow ? shelves[s].sort : 10 + shelves[s].kind;
    }

    int drawing(int s, int kind, int a) {
        if (!shelf(s) || !within(kind, 1, 6) || !within(a, 0, 9)) return no(-2);
        shelves[s] = new Thing();
        shelves[s].kind = kind;
        shelves[s].a = a;
        return 1;
    }

    private static boolean under(int kind, int wanted) {
        switch (wanted) {
            case 0: return true;
            case 1: return true;
            case 2: return kind >= 2 && kind <= 5;
            default: return kind == wanted;
        }
    }

    private int saying(Thing d) {
        int rows = 0;
        for (int[] row : d.kind == 1 || d.kind == 6 ? shakenRows() : heapedRows()) {
            if (isSaid(d.kind, row, d.a)) rows++;
        }
        return rows;
    }

    private static boolean isSaid(int kind, int[] row, int k) {
        int n = row.length;
        switch (kind) {
            case 3:
                for (int t = 1; t <= n; t++) {
                    if ((t % 2 == 0 || t == n) && !aheadAt(row, t, k)) return false;
                }
                return true;
            case 4:
                int[] turned = new int[n];
                for (int i = 0; i < n; i++) turned[i] = row[n - 1 - i];
                return aheadAll(turned, k);
            case 5:
                for (int t = 1; t <= sureAt(row); t++) if (!aheadAt(row, t, k)) return false;
                return true;
            case 6:
                for (int t = 1; t <= n; t++) if (aheadAt(row, t, k)) return true;
                return false;
            default:
                return aheadAll(row, k);
        }
    }

    int says(int s, int kind) {
        if (!shelf(s) || !within(kind, 0, 6)) return no(-2);
        Thing d = shelves[s];
        if (d != null && (d.isRow || !under(d.kind, kind))) return no(-3);
        if (d == null) return no(-4);
        return kind == 0 ? d.a : saying(d);
    }

    int head() {
        int best = NONE;
        for (int s = 0; s < 8; s++) {
            if (shelves[s] == null || shelves[s].isRow) continue;
            if (best == NONE || saying(shelves[s]) > saying(shelves[best])) best = s;
        }
        return best == NONE ? no(-5) : best;
    }

    // ---- the drum ----

    int heap(int a, int b) {
        if (!within(a, 0, 9) || !within(b, 0, 9) || a == 0 && b == 0) return no(-2);
        if (!state.read.isEmpty()) return no(-5);
        if (state.heaps.size() == 4 || n() + a + b > 24) return no(-6);
        state.heaps.add(new int[] {a, b});
        state.order.add(state.heaps.size() - 1);
        return state.heaps.size() - 1;
    }

    int fact(int kind, int t, int v) {
        if (!within(kind, 0, 3) || !within(t, 0, 24) || !within(v, 0, 24)) return no(-2);
        if (state.facts.size() == 4) return no(-6);
        state.facts.add(new int[] {kind, t, v});
        return state.facts.size() - 1;
    }

    int forget(int i) {
        if (!within(i, 0, state.facts.size() - 1)) return no(-2);
        state.facts.remove(i);
        return state.facts.size();
    }

    int swap(int i, int j) {
        if (!within(i, 0, state.heaps.size() - 1) || !within(j, 0, state.heaps.size() - 1)) return no(-2);
        if (!state.read.isEmpty()) return no(-5);
        int heap = state.order.get(i);
        state.order.set(i, state.order.get(j));
        state.order.set(j, heap);
        return i == j ? 0 : 1;
    }

    int feed(int letter) {
        if (!within(letter, 0, 255)) return no(-2);
        if (tape.length() == 250) return no(-6);
        tape.append((char) letter);
        return tape.length();
    }

    int wipe() {
        int size = tape.length();
        tape.setLength(0);
        return size;
    }

    /** The token at or behind a place: its beginning and end, or two times the size. */
    private static int[] tokenFrom(String text, int from) {
        int at = from;
        while (at < text.length() && text.charAt(at) == ' ') at++;
        int end = at;
        if (at < text.length()) {
            boolean word = Character.toString(text.charAt(at)).matches("[a-z]");
            boolean number = Character.toString(text.charAt(at)).matches("[0-9]");
            String goesOn = word ? "[a-z]" : number ? "[0-9]" : "(?!)";
            end++;
            while (end < text.length() && Character.toString(text.charAt(end)).matches(goesOn)) end++;
        }
        return new int[] {at, end};
    }

    private int fault = 0;

    int drum() {
        String text = tape.toString();
        tape.setLength(0);
        State before = state.copy();
        int[] refusedBefore = refused.clone();
        int statements = statements(text);
        System.arraycopy(refusedBefore, 0, refused, 0, refused.length);
        if (statements < 0) {
            state = before;
            no(-2);
            return -20 - fault;
        }
        return statements;
    }

    private int statements(String text) {
        int at = 0;
        for (int many = 1; ; many++) {
            at = statement(text, at);
            if (at < 0) return -1;
            int[] sign = tokenFrom(text, at);
            if (sign[0] == text.length()) return many;
            fault = sign[0];
            if (text.charAt(sign[0]) != ';') return -1;
            at = sign[1];
        }
    }

    /** The place behind a statement, or -1 and the fault. */
    private int statement(String text, int from) {
        int[] token = tokenFrom(text, from);
        String word = text.substring(token[0], token[1]);
        fault = token[0];
        boolean isRead = !state.read.isEmpty();
        switch (word) {
            case "heap":
                if (isRead || state.heaps.size() == 4) return -1;
                return numbers(text, token[1], word, new int[] {9, 9});
            case "fact":
                if (state.facts.size() == 4) return -1;
                return numbers(text, token[1], word, new int[] {3, 24, 24});
            case "swap":
                if (isRead) return -1;
                int most = state.heaps.size() - 1;
                return numbers(text, token[1], word, new int[] {most, most});
            case "read":
                token = tokenFrom(text, token[1]);
                fault = token[0];
                String slips = text.substring(token[0], token[1]);
                if (!slips.matches("[ab]+")) return -1;
                for (char c : slips.toCharArray()) if (read(c == 'a') < 0) return -1;
                return token[1];
            default:
                return -1;
        }
    }

    private int numbers(String text, int from, String word, int[] most) {
        int at = from;
        int[] values = new int[3];
        for (int i = 0; i < most.length; i++) {
            int[] token = tokenFrom(text, at);
            fault = token[0];
            String digits = text.substring(token[0], token[1]);
            if (!digits.matches("[0-9]{1,2}") || Integer.parseInt(digits) > most[i]) return -1;
            values[i] = Integer.parseInt(digits);
            at = token[1];
        }
        int answer = 0;
        if (word.equals("heap")) answer = heap(values[0], values[1]);
        if (word.equals("fact")) answer = fact(values[0], values[1], values[2]);
        if (word.equals("swap")) answer = swap(values[0], values[1]) - 1;
        return answer < 0 ? -1 : at;
    }

    int heapOf(int heap, int what) {
        if (!within(heap, 0, state.heaps.size() - 1) || !within(what, 0, 2)) return no(-2);
        return what == 2 ? state.order.indexOf(heap) : state.heaps.get(heap)[what];
    }

    int factOf(int fact, int what) {
        if (!within(fact, 0, state.facts.size() - 1) || !within(what, 0, 2)) return no(-2);
        return state.facts.get(fact)[what];
    }

    int rows() {
        return heapedRows().size();
    }

    int ways() {
        return fitting().size();
    }

    private int heapNow() {
        int end = 0;
        for (int heap : state.order) {
            end += state.heaps.get(heap)[0] + state.heaps.get(heap)[1];
            if (state.read.size() < end) return heap;
        }
        return NONE;
    }

    /** A and B slips left in the heap drawn now. */
    private int[] leftNow() {
        int now = heapNow();
        if (now == NONE) return new int[] {0, 0};
        int start = 0;
        for (int heap : state.order) {
            if (heap == now) break;
            start += state.heaps.get(heap)[0] + state.heaps.get(heap)[1];
        }
        int[] left = state.heaps.get(now).clone();
        for (int i = start; i < state.read.size(); i++) left[state.read.get(i) == 1 ? 0 : 1]--;
        return left;
    }

    int read(boolean isA) {
        if (leftNow()[isA ? 0 : 1] == 0) return no(-5);
        state.read.add(isA ? 1 : 0);
        return state.read.size();
    }

    int slip(int i) {
        return within(i, 0, state.read.size() - 1) ? state.read.get(i) : no(-2);
    }

    int again() {
        int were = state.read.size();
        state.read.clear();
        return were;
    }

    private int[] readRow() {
        int[] row = new int[state.read.size()];
        for (int i = 0; i < row.length; i++) row[i] = state.read.get(i);
        return row;
    }

    int lead() {
        return leadAt(readRow(), state.read.size());
    }

    int ahead(int k) {
        if (!within(k, 0, 9)) return no(-2);
        int rows = 0;
        for (int[] row : fitting()) if (aheadAll(row, k)) rows++;
        return rows;
    }

    int never() {
        int rows = 0;
        for (int[] row : fitting()) {
            boolean behind = false;
            for (int t = 1; t <= row.length; t++) behind |= leadAt(row, t) < 0;
            if (!behind) rows++;
        }
        return rows;
    }

    int level(int m) {
        if (!within(m, 0, 24)) return no(-2);
        int rows = 0;
        for (int[] row : fitting()) if (levels(row) == m) rows++;
        return rows;
    }

    int last(int t) {
        if (!within(t, 0, 24)) return no(-2);
        int rows = 0;
        for (int[] row : fitting()) if (lastLevel(row) == t) rows++;
        return rows;
    }

    int greatest(int g) {
        if (!within(g, 0, 24)) return no(-2);
        int rows = 0;
        for (int[] row : fitting()) if (greatestLead(row) == g) rows++;
        return rows;
    }

    int sure(int t) {
        if (!within(t, 0, 24)) return no(-2);
        int rows = 0;
        for (int[] row : fitting()) if (sureAt(row) == t) rows++;
        return rows;
    }

    int soFar(int t, int a) {
        if (!within(t, 0, 24) || !within(a, 0, 24)) return no(-2);
        int rows = 0;
        for (int[] row : fitting()) if (t <= row.length && aAt(row, t) == a) rows++;
        return rows;
    }

    long spent() {
        long sum = 0;
        for (int[] row : fitting()) sum += aheads(row);
        return sum;
    }

    long mean() {
        long sum = 0;
        for (int[] row : fitting()) sum += sureAt(row);
        return sum;
    }

    int price(int k) {
        if (!within(k, 0, 9)) return no(-2);
        if (ways() == 0) return no(-5);
        return 1000 * ahead(k) / ways();
    }

    int often() {
        int[] many = new int[25];
        for (int[] row : fitting()) many[levels(row)]++;
        int best = 0;
        for (int m = 0; m <= 24; m++) if (many[m] > many[best]) best = m;
        return best;
    }

    int half() {
        List<int[]> rows = fitting();
        if (rows.isEmpty()) return no(-5);
        for (int t = 0; ; t++) {
            int sure = 0;
            for (int[] row : rows) if (sureAt(row) <= t) sure++;
            if (2 * sure >= rows.size()) return t;
        }
    }

    int isSure() {
        int t = state.read.size();
        return t == n() || Math.abs(lead()) > n() - t ? 1 : 0;
    }

    // ---- what else ----

    private int against(int s) {
        if (!shelf(s)) return -2;
        if (shelves[s] == null) return -4;
        return shelves[s].isRow ? 0 : -3;
    }

    private int wrongPlace(long[] told) {
        int n = n();
        int[] row = new int[told.length];
        List<int[]> left = new ArrayList<>();
        for (int[] heap : orderedHeaps(state.order)) left.add(heap.clone());
        for (int i = 0; i < told.length; i++) {
            if (i >= n || told[i] != 0 && told[i] != 1) return i;
            row[i] = (int) told[i];
            while (left.get(0)[0] + left.get(0)[1] == 0) left.remove(0);
            int which = row[i] == 1 ? 0 : 1;
            if (left.get(0)[which] == 0) return i;
            left.get(0)[which]--;
            if (i < state.read.size() && state.read.get(i) != row[i]) return i;
            for (int[] fact : state.facts) {
                if (i == 0 && !factHoldsAt(fact, row, 0)) return i;
                if (!factHoldsAt(fact, row, i + 1)) return i;
            }
        }
        return NONE;
    }

    int judge(int s) {
        return against(s) != 0 ? no(against(s)) : wrongPlace(shelves[s].elements);
    }

    private int[] toldRow(int s) {
        int[] row = new int[shelves[s].elements.length];
        for (int i = 0; i < row.length; i++) row[i] = (int) shelves[s].elements[i];
        return row;
    }

    int told(int s, int what) {
        if (!within(what, 0, 2)) return no(-2);
        if (against(s) != 0) return no(against(s));
        if (shelves[s].elements.length != n() || wrongPlace(shelves[s].elements) != NONE) return no(-5);
        int[] row = toldRow(s);
        return what == 0 ? aheads(row) : what == 1 ? levels(row) : greatestLead(row);
    }

    int luck(int s) {
        if (against(s) != 0) return no(against(s));
        if (shelves[s].elements.length != n() || wrongPlace(shelves[s].elements) != NONE) return no(-5);
        int rows = 0;
        int least = aheads(toldRow(s));
        for (int[] row : fitting()) if (aheads(row) >= least) rows++;
        return rows;
    }

    private void orders(List<Integer> soFar, List<List<Integer>> all) {
        if (soFar.size() == state.heaps.size()) all.add(new ArrayList<>(soFar));
        for (int heap = 0; heap < state.heaps.size(); heap++) {
            if (soFar.contains(heap)) continue;
            soFar.add(heap);
            orders(soFar, all);
            soFar.remove(soFar.size() - 1);
        }
    }

    int order(boolean most, int i) {
        if (!within(i, 0, state.heaps.size() - 1)) return no(-2);
        List<List<Integer>> all = new ArrayList<>();
        orders(new ArrayList<>(), all);
        List<Integer> best = null;
        long bestSpent = 0;
        for (List<Integer> order : all) {
            long spent = 0;
            for (int[] row : written(orderedHeaps(order))) spent += aheads(row);
            if (best == null || (most ? spent > bestSpent : spent < bestSpent)) {
                best = order;
                bestSpent = spent;
            }
        }
        return best.get(i);
    }

    int lost(int l) {
        if (!within(l, 0, 20)) return no(-2);
        int lead = all(0) - all(1);
        int cases = 0;
        for (int bits = 0; bits < 1 << l; bits++) {
            int a = Integer.bitCount(bits);
            int end = lead + a - (l - a);
            boolean counts = lead == 0 ? end > 0 : lead > 0 ? end <= 0 : end >= 0;
            if (counts) cases++;
        }
        return cases;
    }

    private int againstBooks(int p, int q) {
        int one = against(p);
        int two = against(q);
        for (int number = -2; number >= -4; number--) if (one == number || two == number) return number;
        return shelves[p].elements.length != n() || shelves[q].elements.length != n() ? -2 : 0;
    }

    private static boolean agrees(int[] row, long[] book) {
        for (int i = 0; i < row.length; i++) {
            if ((book[i] == 0 || book[i] == 1) && book[i] != row[i]) return false;
        }
        return true;
    }

    int books(int p, int q) {
        int against = againstBooks(p, q);
        if (against != 0) return no(against);
        int rows = 0;
        for (int[] row : heapedRows()) {
            if (agrees(row, shelves[p].elements) && agrees(row, shelves[q].elements)) rows++;
        }
        return rows;
    }

    int unlike(int p, int q) {
        int against = againstBooks(p, q);
        if (against != 0) return no(against);
        for (int i = 0; i < n(); i++) {
            long one = shelves[p].elements[i];
            long two = shelves[q].elements[i];
            if (one == 0 && two == 1 || one == 1 && two == 0) return i;
        }
        return NONE;
    }

    private int drawBelow(int n) {
        state.seed = state.seed * 1103515245 + 12345;
        return ((state.seed >> 16) & 0xFFFF) % n;
    }

    int draw() {
        if (state.read.size() == n()) return no(-5);
        int[] left = leftNow();
        int slip = drawBelow(left[0] + left[1]) < left[0] ? 1 : 0;
        state.read.add(slip);
        return slip;
    }

    int evening() {
        while (state.read.size() < n()) draw();
        return aheads(readRow());
    }

    int seed(int v) {
        int was = state.seed;
        state.seed = v;
        return was;
    }

    int image() {
        kept = state.copy();
        return 1;
    }

    int back() {
        if (kept == null) return no(-5);
        state = kept.copy();
        return 1;
    }

    int status(int what) {
        int used = 0;
        for (Thing thing : shelves) used += thing == null ? 0 : 1;
        switch (what) {
            case 0: return state.heaps.size();
            case 1: return n();
            case 2: return state.read.size();
            case 3: return state.facts.size();
            case 4: return all(0);
            case 5: return all(1);
            case 6: return aAt(readRow(), state.read.size());
            case 7: return tape.length();
            case 8: return state.seed;
            case 9: return used;
            case 10: return heapNow();
            default: return within(what, 12, 16) ? refused[what - 10] : NONE;
        }
    }
}
