import java.util.Random;

/**
 * Drums of 14 to 24 slips with slips READ and FACTS, picked by fixed seeds: all ROWS are run through as
 * bits of a number (bit i is the slip at place i), which the Model is too slow for.
 */
public final class BigFitTest {
    private static final int DRUMS = 60;

    private final Random random;
    private final String name;
    private final AlwaysAhead x = new AlwaysAhead();
    private int[] rows = new int[1 << 20];
    private int many = 0;
    private int n = 0;
    private int told = 0;
    private int[][] facts = new int[0][];

    private BigFitTest(int number) {
        random = new Random(number);
        name = "drum " + number + ", ";
    }

    public static void main(String[] args) {
        for (int number = 0; number < DRUMS; number++) {
            new BigFitTest(number).go();
        }
        Due.end("BigFitTest");
    }

    private void go() {
        layIn();
        write();
        Due.is(name + "18: rows()", x.rows(), many);
        told = rows[random.nextInt(many)];
        askDrawings();
        askBooks();
        remember();
        readSome();
        keepFitting();
        Due.is(name + "19: ways()", x.ways(), many);
        askTallies();
        askOthers();
        askTold();
    }

    private void layIn() {
        int heaps = 1 + random.nextInt(4);
        int room = 14 + random.nextInt(11);
        for (int heap = 0; heap < heaps; heap++) {
            int a = Math.min(random.nextInt(10), room);
            int b = Math.min(random.nextInt(10), room - a);
            if (a + b > 0) {
                x.heap(a, b);
                room -= a + b;
            }
        }
        if (x.status(0) == 0) {
            x.heap(9, 9);
        }
        x.swap(random.nextInt(x.status(0)), random.nextInt(x.status(0)));
        n = x.status(1);
    }

    private void write() {
        rows[0] = 0;
        many = 1;
        int start = 0;
        for (int place = 0; place < x.status(0); place++) {
            int heap = 0;
            while (x.heapOf(heap, 2) != place) {
                heap++;
            }
            int a = x.heapOf(heap, 0);
            int size = a + x.heapOf(heap, 1);
            int[] longer = new int[1 << 20];
            int more = 0;
            for (int bits = 0; bits < 1 << size; bits++) {
                for (int i = 0; i < many && Integer.bitCount(bits) == a; i++) {
                    longer[more] = rows[i] | bits << start;
                    more++;
                }
            }
            rows = longer;
            many = more;
            start += size;
        }
    }

    private static int aAt(int row, int t) {
        return Integer.bitCount(row & (1 << t) - 1);
    }

    private static int lead(int row, int t) {
        return 2 * aAt(row, t) - t;
    }

    private static boolean isAhead(int row, int t, int k) {
        int a = aAt(row, t);
        return a > k * (t - a);
    }

    private int sureAt(int row) {
        int t = 0;
        while (t < n && Math.abs(lead(row, t)) <= n - t) {
            t++;
        }
        return t;
    }

    private int aheads(int row) {
        int moments = 0;
        for (int t = 1; t <= n; t++) {
            moments += lead(row, t) > 0 ? 1 : 0;
        }
        return moments;
    }

    private boolean isSaid(int kind, int row, int k) {
        int to = kind == 5 ? sureAt(row) : n;
        int read = kind == 4 && n > 0 ? Integer.reverse(row) >>> 32 - n : row;
        for (int t = 1; t <= to; t++) {
            boolean isLookedAt = kind != 3 || t % 2 == 0 || t == n;
            if (isLookedAt && !isAhead(read, t, k)) {
                return false;
            }
        }
        return true;
    }

    private void askDrawings() {
        for (int kind = 2; kind <= 5; kind++) {
            int k = random.nextInt(3);
            int due = 0;
            for (int i = 0; i < many; i++) {
                due += isSaid(kind, rows[i], k) ? 1 : 0;
            }
            x.drawing(0, kind, k);
            Due.is(name + "8: KIND " + kind + " by " + k, x.says(0, kind), due);
        }
    }

    private void askBooks() {
        int[] seen = {random.nextInt() & random.nextInt(), random.nextInt() & random.nextInt()};
        for (int s = 0; s < 2; s++) {
            x.row(s, 2, n);
            for (int i = 0; i < n; i++) {
                x.set(s, i, (seen[s] >> i & 1) == 1 ? told >> i & 1 : 2 + i);
            }
        }
        int due = 0;
        for (int i = 0; i < many; i++) {
            due += ((rows[i] ^ told) & (seen[0] | seen[1]) & (1 << n) - 1) == 0 ? 1 : 0;
        }
        Due.is(name + "43: books(0, 1)", x.books(0, 1), due);
        Due.is(name + "44: unlike(0, 1)", x.unlike(0, 1), -1);
    }

    /** FACTS that hold of the told row, so that some row FITS. */
    private void remember() {
        facts = new int[random.nextInt(5)][];
        for (int i = 0; i < facts.length; i++) {
            int t = Math.min(24, 1 + random.nextInt(n + 1));
            int level = t / 2 * 2;
            switch (random.nextInt(4)) {
                case 0: facts[i] = new int[] {0, t, aAt(told, Math.min(t, n))}; break;
                case 1: facts[i] = new int[] {1, t, runOf(t, 1)}; break;
                case 2: facts[i] = new int[] {level > n || lead(told, level) == 0 ? 2 : 3, level, Math.max(0, level - 1)}; break;
                default: facts[i] = new int[] {3, t, runOf(t, 0)}; break;
            }
            x.fact(facts[i][0], facts[i][1], facts[i][2]);
        }
    }

    /** Up to which MOMENT from t on the told row has that lead at least; a MOMENT before t, if it hasn't there. */
    private int runOf(int t, int least) {
        int to = t;
        while (to <= n && lead(told, to) >= least) {
            to++;
        }
        return Math.max(0, Math.min(24, to - 1));
    }

    private void readSome() {
        for (int i = random.nextInt(Math.min(6, n)); i > 0; i--) {
            x.read((told >> x.status(2) & 1) == 1);
        }
    }

    private boolean holds(int[] fact, int row) {
        for (int t = fact[1]; t <= n && t <= (fact[0] % 2 == 0 ? fact[1] : fact[2]); t++) {
            int lead = lead(row, t);
            boolean isSo = fact[0] == 0 ? aAt(row, t) == fact[2] : fact[0] == 1 ? lead > 0 : fact[0] == 2 ? lead == 0 : lead >= 0;
            if (!isSo) {
                return false;
            }
        }
        return true;
    }

    private void keepFitting() {
        int read = (1 << x.status(2)) - 1;
        int kept = 0;
        for (int i = 0; i < many; i++) {
            boolean fits = ((rows[i] ^ told) & read) == 0;
            for (int[] fact : facts) {
                fits = fits && holds(fact, rows[i]);
            }
            if (fits) {
                rows[kept] = rows[i];
                kept++;
            }
        }
        many = kept;
    }

    private void askTallies() {
        int[] level = new int[25];
        int[] last = new int[25];
        int[] greatest = new int[25];
        int[] sure = new int[25];
        long spent = 0;
        long mean = 0;
        for (int i = 0; i < many; i++) {
            int levels = 0;
            int lastLevel = 0;
            int most = 0;
            for (int t = 1; t <= n; t++) {
                int lead = lead(rows[i], t);
                levels += lead == 0 ? 1 : 0;
                lastLevel = lead == 0 ? t : lastLevel;
                most = Math.max(most, lead);
            }
            level[levels]++;
            last[lastLevel]++;
            greatest[most]++;
            sure[sureAt(rows[i])]++;
            spent += aheads(rows[i]);
            mean += sureAt(rows[i]);
        }
        int often = 0;
        int half = -1;
        int surely = 0;
        for (int i = 0; i <= 24; i++) {
            Due.is(name + "26: level(" + i + ")", x.level(i), level[i]);
            Due.is(name + "27: last(" + i + ")", x.last(i), last[i]);
            Due.is(name + "28: greatest(" + i + ")", x.greatest(i), greatest[i]);
            Due.is(name + "29: sure(" + i + ")", x.sure(i), sure[i]);
            often = level[i] > level[often] ? i : often;
            surely += sure[i];
            half = half < 0 && 2 * surely >= many ? i : half;
        }
        Due.is(name + "31: spent()", x.spent(), spent);
        Due.is(name + "32: mean()", x.mean(), mean);
        Due.is(name + "34: often()", x.often(), often);
        Due.is(name + "35: half()", x.half(), half);
    }

    private void askOthers() {
        int never = 0;
        int[] ahead = new int[10];
        int t = random.nextInt(n + 1);
        int[] soFar = new int[25];
        for (int i = 0; i < many; i++) {
            boolean isBehind = false;
            for (int moment = 1; moment <= n; moment++) {
                isBehind |= lead(rows[i], moment) < 0;
            }
            never += isBehind ? 0 : 1;
            for (int k = 0; k < 10 && isSaid(2, rows[i], k); k++) {
                ahead[k]++;
            }
            soFar[aAt(rows[i], t)]++;
        }
        Due.is(name + "25: never()", x.never(), never);
        for (int k = 0; k < 10; k++) {
            Due.is(name + "24: ahead(" + k + ")", x.ahead(k), ahead[k]);
            Due.is(name + "33: price(" + k + ")", x.price(k), 1000L * ahead[k] / many);
        }
        for (int a = 0; a <= 24; a++) {
            Due.is(name + "30: soFar(" + t + ", " + a + ")", x.soFar(t, a), soFar[a]);
        }
    }

    private void askTold() {
        x.row(7, 4, n);
        for (int i = 0; i < n; i++) {
            x.set(7, i, told >> i & 1);
        }
        int luck = 0;
        for (int i = 0; i < many; i++) {
            luck += aheads(rows[i]) >= aheads(told) ? 1 : 0;
        }
        Due.is(name + "38: judge(7)", x.judge(7), -1);
        Due.is(name + "39: told(7, 0)", x.told(7, 0), aheads(told));
        Due.is(name + "40: luck(7)", x.luck(7), luck);
    }
}
