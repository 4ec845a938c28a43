/** Drums of 24 slips, all rows run through as bits of a number: the class counts without them. */
public final class BigTest {
    private static final int N = 24;

    private static int ways;
    private static int never;
    private static long spent;
    private static long mean;
    private static int[] ahead;
    private static int[] level;
    private static int[] last;
    private static int[] greatest;
    private static int[] sure;
    private static int[] soFar;

    public static void main(String[] args) {
        compare(9, 9, 3, 3);
        compare(9, 3, 6, 6);
        compare(2, 9, 8, 5);
        shaken(9, 9, 3, 3);
        shaken(9, 3, 6, 6);
        Due.end("BigTest");
    }

    private static void empty() {
        ways = 0;
        never = 0;
        spent = 0;
        mean = 0;
        ahead = new int[10];
        level = new int[N + 1];
        last = new int[N + 1];
        greatest = new int[N + 1];
        sure = new int[N + 1];
        soFar = new int[N + 1];
    }

    private static void look(int bits) {
        int a = 0;
        int levels = 0;
        int lastLevel = 0;
        int most = 0;
        int sureAt = N;
        int times = 9;
        boolean behind = false;
        for (int t = 1; t <= N; t++) {
            a += bits >> t - 1 & 1;
            int b = t - a;
            if (a == b) {
                levels++;
                lastLevel = t;
            }
            most = Math.max(most, a - b);
            behind |= a < b;
            spent += a > b ? 1 : 0;
            if (sureAt == N && Math.abs(a - b) > N - t) {
                sureAt = t;
            }
            while (times >= 0 && a <= times * b) {
                times--;
            }
            if (t == 13) {
                soFar[a]++;
            }
        }
        ways++;
        never += behind ? 0 : 1;
        mean += sureAt;
        level[levels]++;
        last[lastLevel]++;
        greatest[most]++;
        sure[sureAt]++;
        for (int k = 0; k <= times; k++) {
            ahead[k]++;
        }
    }

    private static void compare(int a, int b, int c, int d) {
        empty();
        int first = (1 << a + b) - 1;
        for (int bits = 0; bits < 1 << N; bits++) {
            if (Integer.bitCount(bits & first) == a && Integer.bitCount(bits & ~first) == c) {
                look(bits);
            }
        }
        AlwaysAhead x = new AlwaysAhead();
        x.heap(a, b);
        x.heap(c, d);
        Due.is("rows()", x.rows(), ways);
        Due.is("never()", x.never(), never);
        Due.is("spent()", x.spent(), spent);
        Due.is("mean()", x.mean(), mean);
        for (int i = 0; i <= N; i++) {
            Due.is("level(" + i + ")", x.level(i), level[i]);
            Due.is("last(" + i + ")", x.last(i), last[i]);
            Due.is("greatest(" + i + ")", x.greatest(i), greatest[i]);
            Due.is("sure(" + i + ")", x.sure(i), sure[i]);
            Due.is("soFar(13, " + i + ")", x.soFar(13, i), soFar[i]);
        }
        for (int k = 0; k < 10; k++) {
            Due.is("ahead(" + k + ")", x.ahead(k), ahead[k]);
            Due.is("price(" + k + ")", x.price(k), (int) (1000L * ahead[k] / ways));
        }
    }

    private static void shaken(int a, int b, int c, int d) {
        empty();
        for (int bits = 0; bits < 1 << N; bits++) {
            if (Integer.bitCount(bits) == a + c) {
                look(bits);
            }
        }
        AlwaysAhead x = new AlwaysAhead();
        x.heap(a, b);
        x.heap(c, d);
        for (int k = 0; k < 10; k++) {
            x.drawing(0, 1, k);
            Due.is("SHAKEN by " + k, x.says(0, 1), ahead[k]);
        }
    }
}
