import java.lang.reflect.InvocationTargetException;
import java.lang.reflect.Method;
import java.util.ArrayList;
import java.util.Arrays;
import java.util.Comparator;
import java.util.HashMap;
import java.util.List;
import java.util.Map;
import java.util.Random;

/** Runs of calls, picked by fixed seeds, held against the Model: every answer, and the whole state. */
public final class ModelTest {
    private static final int RUNS = 1500;
    private static final int CALLS = 500;
    private static final Map<String, int[]> MOST = new HashMap<>();
    private static final List<Method> METHODS = new ArrayList<>();

    static {
        // the greatest number that may be, for each argument (from 0 on)
        most("row", 7, 4, 40);
        most("set", 7, 12, 2);
        most("copy", 7, 7, 12, 12, 12);
        most("element", 7, 12);
        most("holds", 7);
        most("drawing", 7, 6, 9);
        most("says", 7, 6);
        most("heap", 4, 4);
        most("fact", 3, 24, 24);
        most("forget", 3);
        most("swap", 3, 3);
        most("feed", 255);
        most("heapOf", 3, 2);
        most("factOf", 3, 2);
        most("slip", 12);
        most("ahead", 9);
        most("level", 24);
        most("last", 24);
        most("greatest", 24);
        most("sure", 24);
        most("soFar", 24, 24);
        most("price", 9);
        most("judge", 7);
        most("told", 7, 2);
        most("luck", 7);
        most("order", 1, 3);
        most("lost", 12);
        most("books", 7, 7);
        most("unlike", 7, 7);
        most("seed", 1000000);
        most("status", 17);
        most("read", 1);
        for (Method method : AlwaysAhead.class.getDeclaredMethods()) {
            if (java.lang.reflect.Modifier.isPublic(method.getModifiers())) {
                METHODS.add(method);
            }
        }
        METHODS.sort(Comparator.comparing(Method::getName));
    }

    private final Random random;
    private final int run;
    private final AlwaysAhead real = new AlwaysAhead();
    private final Model model = new Model();
    private final List<String> said = new ArrayList<>();
    private int calls = 0;

    private ModelTest(int run) {
        this.run = run;
        this.random = new Random(run);
    }

    private static void most(String name, int... numbers) {
        MOST.put(name, numbers);
    }

    public static void main(String[] args) throws Exception {
        for (int run = 0; run < RUNS && Due.wrongSoFar() == 0; run++) {
            new ModelTest(run).go();
            new ModelTest(RUNS + run).askAll();
        }
        Due.end("ModelTest");
    }

    private void go() throws Exception {
        int heaps = random.nextInt(5);
        for (int i = 0; i < heaps; i++) {
            layHeap();
        }
        while (calls < CALLS - 60 && Due.wrongSoFar() == 0) {
            switch (random.nextInt(12)) {
                case 0: tellRow(); break;
                case 1: readTape(); break;
                case 2: tellBooks(); break;
                case 3: readSome(); break;
                default: anyCall(); break;
            }
        }
        for (int what = -1; what <= 17; what++) {
            call("status", what);
        }
        for (int s = 0; s < 8; s++) {
            call("holds", s);
        }
    }

    /** One drum, with slips read and facts that hold of some row, and every question to it. */
    private void askAll() throws Exception {
        int heaps = 1 + random.nextInt(4);
        for (int i = 0; i < heaps; i++) {
            layHeap();
        }
        for (int i = 0; i < 2; i++) {
            call("swap", random.nextInt(heaps), random.nextInt(heaps));
        }
        int n = model.status(1);
        int[] row = someRow(n);
        for (int facts = random.nextInt(4); facts > 0; facts--) {
            rememberOf(row);
        }
        for (int i = random.nextInt(4) == 0 ? n : random.nextInt(n / 2 + 1); i > 0; i--) {
            call("read", row[model.status(2)]);
        }
        for (String name : new String[] {"rows", "ways", "never", "spent", "mean", "often", "half", "isSure", "lead"}) {
            call(name);
        }
        for (int i = 0; i <= 13; i++) {
            for (String name : new String[] {"ahead", "price", "level", "last", "greatest", "sure", "lost"}) {
                call(name, i);
            }
            call("soFar", i, random.nextInt(7));
            call("soFar", random.nextInt(n + 1), i);
        }
        for (int place = 0; place < heaps; place++) {
            call("order", 0, place);
            call("order", 1, place);
        }
        askDrawings();
        copyAbout();
    }

    private void askDrawings() throws Exception {
        for (int times = 0; times < 3; times++) {
            for (int kind = 1; kind <= 6; kind++) {
                int s = random.nextInt(8);
                call("drawing", s, kind, random.nextInt(3) > 0 ? times : random.nextInt(10));
                call("says", s, kind);
                call("says", s, random.nextInt(7));
            }
            call("head");
        }
    }

    private void copyAbout() throws Exception {
        int sort = random.nextInt(5);
        call("row", 0, sort, 10);
        call("row", 1, random.nextInt(3) > 0 ? sort : 2, 8);
        for (int i = 0; i < 10; i++) {
            call("set", 0, i, random.nextInt(70000) - 35000);
        }
        for (int i = 0; i < 12; i++) {
            call("copy", random.nextInt(2), random.nextInt(2), random.nextInt(6), random.nextInt(6), random.nextInt(7));
        }
        for (int i = 0; i < 10; i++) {
            call("element", 0, i);
            call("element", 1, i);
        }
    }

    private void rememberOf(int[] row) throws Exception {
        int[] a = new int[row.length + 1];
        for (int i = 0; i < row.length; i++) {
            a[i + 1] = a[i] + row[i];
        }
        int t = random.nextInt(row.length + 1);
        int ahead = t;
        while (ahead + 1 < a.length && 2 * a[ahead + 1] > ahead + 1) {
            ahead++;
        }
        int never = t;
        while (never + 1 < a.length && 2 * a[never + 1] >= never + 1) {
            never++;
        }
        switch (random.nextInt(4)) {
            case 0: call("fact", 0, t, a[t]); break;
            case 1: call("fact", 1, t + 1, ahead); break;
            case 2: call("fact", 2 * a[t] == t ? 2 : 3, t, 2 * a[t] == t ? random.nextInt(25) : Math.max(0, t - 1)); break;
            default: call("fact", 3, t + 1, never); break;
        }
    }

    /** Small drums, so that the Model can write out every row. */
    private void layHeap() throws Exception {
        int room = 11 - model.status(1);
        int a = random.nextInt(5);
        int b = random.nextInt(5);
        if (a + b <= room) {
            call("heap", a, b);
        }
    }

    private void anyCall() throws Exception {
        Method method = METHODS.get(random.nextInt(METHODS.size()));
        String name = method.getName();
        if (name.equals("heap") && random.nextInt(3) > 0) {
            layHeap();
            return;
        }
        if ((name.equals("draw") || name.equals("evening")) && random.nextInt(3) > 0) {
            call("again");
            return;
        }
        if (name.equals("fact") && model.ways() < 3 && random.nextInt(4) > 0) {
            call("forget", 0);
            return;
        }
        int[] most = MOST.getOrDefault(name, new int[0]);
        int[] numbers = new int[most.length];
        for (int i = 0; i < most.length; i++) {
            numbers[i] = number(most[i]);
        }
        boolean isBig = name.equals("heap") && model.status(1) + (long) numbers[0] + numbers[1] > 13;
        if (!isBig || numbers[0] > 9 || numbers[1] > 9 || numbers[0] < 0 || numbers[1] < 0) {
            call(name, numbers);
        }
    }

    private int number(int most) {
        switch (random.nextInt(24)) {
            case 0: return -1;
            case 1: return most + 1;
            case 2: return random.nextBoolean() ? Integer.MIN_VALUE : Integer.MAX_VALUE;
            case 3: return random.nextInt();
            case 4: case 5: case 6: return Math.min(most, model.status(1));
            case 7: case 8: case 9: case 10: return random.nextInt(Math.min(most, 3) + 1);
            default: return random.nextInt(most + 1);
        }
    }

    /** A ROW that mostly can be: slips as READ, then drawn from the heaps, one of them changed at times. */
    private void tellRow() throws Exception {
        int s = random.nextInt(8);
        int n = model.status(1);
        int size = random.nextInt(4) > 0 ? n : random.nextInt(n + 3);
        call("row", s, random.nextInt(5), size);
        int[] slips = someRow(n);
        for (int i = 0; i < size; i++) {
            int slip = i < n ? slips[i] : random.nextInt(2);
            int value = random.nextInt(40) == 0 ? random.nextInt(6) - 2 : slip;
            call("set", s, i, value);
        }
        call("judge", s);
        call("told", s, random.nextInt(3));
        call("luck", s);
    }

    private int[] someRow(int n) {
        int[] slips = new int[n];
        int i = 0;
        for (int place = 0; place < model.status(0); place++) {
            int heap = 0;
            while (model.heapOf(heap, 2) != place) {
                heap++;
            }
            int a = model.heapOf(heap, 0);
            int left = a + model.heapOf(heap, 1);
            for (; left > 0; left--) {
                boolean isRead = i < model.status(2) && random.nextInt(60) > 0;
                slips[i] = isRead ? model.slip(i) : random.nextInt(left) < a ? 1 : 0;
                a -= slips[i];
                i++;
            }
        }
        return slips;
    }

    private void tellBooks() throws Exception {
        int p = random.nextInt(8);
        int q = random.nextInt(8);
        int n = model.status(1);
        int[] slips = someRow(n);
        for (int s : new int[] {p, q}) {
            call("row", s, random.nextInt(4), n);
            for (int i = 0; i < n; i++) {
                int value = random.nextInt(3) > 0 ? 2 + random.nextInt(3) : slips[i];
                call("set", s, i, random.nextInt(30) == 0 ? random.nextInt(4) - 1 : value);
            }
        }
        call("books", p, q);
        call("unlike", p, q);
    }

    private void readSome() throws Exception {
        call("again");
        for (int i = random.nextInt(6); i > 0; i--) {
            call("read", random.nextInt(2));
        }
    }

    private void readTape() throws Exception {
        StringBuilder text = new StringBuilder();
        for (int i = random.nextInt(4); i >= 0; i--) {
            text.append(statement()).append(i > 0 || random.nextInt(15) == 0 ? ";" : "");
        }
        if (random.nextInt(4) == 0 && text.length() > 0) {
            int at = random.nextInt(text.length());
            String letters = " ;0193abhr#\u0000\u00e9A{/:`";
            char letter = letters.charAt(random.nextInt(letters.length()));
            switch (random.nextInt(3)) {
                case 0: text.setCharAt(at, letter); break;
                case 1: text.insert(at, letter); break;
                default: text.setLength(at); break;
            }
        }
        if (model.status(1) > 8 && text.indexOf("heap") >= 0) {
            return;
        }
        for (int i = 0; i < text.length() && text.length() < 60; i++) {
            call("feed", text.charAt(i));
        }
        call("drum");
    }

    private String statement() {
        String gap = random.nextInt(3) > 0 ? " " : random.nextBoolean() ? "  " : "";
        switch (random.nextInt(5)) {
            case 0:
                return gap + "heap" + gap + random.nextInt(3) + " " + random.nextInt(3) + gap;
            case 1:
                return "fact" + gap + random.nextInt(4) + " " + random.nextInt(14) + " 0" + random.nextInt(10);
            case 2:
                return "swap " + random.nextInt(3) + " " + random.nextInt(3);
            case 3:
                StringBuilder slips = new StringBuilder("read ");
                for (int i = random.nextInt(3); i >= 0; i--) {
                    slips.append(random.nextBoolean() ? 'a' : 'b');
                }
                return slips.toString();
            default:
                return random.nextInt(3) > 0 ? " fact 3 1 0" : "heaps 1 1";
        }
    }

    private void call(String name, int... numbers) throws Exception {
        Method method = null;
        for (Method one : METHODS) {
            method = one.getName().equals(name) ? one : method;
        }
        Object[] arguments = new Object[numbers.length];
        for (int i = 0; i < numbers.length; i++) {
            Class<?> type = method.getParameterTypes()[i];
            arguments[i] = type == boolean.class ? (Object) ((numbers[i] & 1) == 1)
                    : type == long.class ? (Object) wide(numbers[i]) : (Object) numbers[i];
        }
        calls++;
        said.add(name + Arrays.toString(arguments));
        Method other = Model.class.getDeclaredMethod(name, method.getParameterTypes());
        long want = ((Number) other.invoke(model, arguments)).longValue();
        compare(name + Arrays.toString(arguments), answer(method, arguments), want);
        if (calls % 8 == 0) {
            for (int what = 0; what <= 16; what++) {
                compare("status(" + what + ")", real.status(what), model.status(what));
            }
        }
    }

    private long wide(int number) {
        return random.nextInt(12) == 0 ? random.nextLong() : random.nextInt(12) == 0 ? number + (1L << 32) : number;
    }

    private long answer(Method method, Object[] arguments) throws Exception {
        try {
            return ((Number) method.invoke(real, arguments)).longValue();
        } catch (InvocationTargetException thrown) {
            System.out.println(method.getName() + " threw " + thrown.getCause());
            return Long.MIN_VALUE;
        }
    }

    private void compare(String call, long got, long want) {
        if (got != want) {
            System.out.println("run " + run + ": " + said);
        }
        Due.is("run " + run + ", call " + calls + ": " + call, got, want);
    }
}
