import java.lang.reflect.InvocationTargetException;
import java.lang.reflect.Method;
import java.lang.reflect.Modifier;

/** Every call with numbers far off, on objects of every kind: none throws, and what is refused has a number. */
public final class ExtremesTest {
    private static final int[] FAR = {Integer.MIN_VALUE, -1, 0, 1, 7, 9, 24, 25, 40, Integer.MAX_VALUE};
    private static final int[] FAR_OF_FIVE = {Integer.MIN_VALUE, -1, 0, 4, 7, Integer.MAX_VALUE};
    private static final Edge.Made[] MADE = {Edge::empty, Edge::busy, Edge::reading, Edge::full, Edge::noWays,
        ExtremesTest::allRead};

    public static void main(String[] args) throws Exception {
        for (Method method : AlwaysAhead.class.getDeclaredMethods()) {
            if (Modifier.isPublic(method.getModifiers())) {
                for (Edge.Made made : MADE) {
                    ask(method, made);
                }
            }
        }
        tapes();
        Due.end("ExtremesTest");
    }

    private static void allRead(AlwaysAhead x) {
        Edge.full(x);
        x.evening();
        x.image();
    }

    private static void ask(Method method, Edge.Made made) throws Exception {
        int many = method.getParameterCount();
        int[] far = many == 5 ? FAR_OF_FIVE : FAR;
        int all = 1;
        for (int i = 0; i < many; i++) {
            all *= far.length;
        }
        AlwaysAhead x = null;
        for (int number = 0; number < all; number++) {
            // one object for at most 512 calls
            if (number % 400 == 0) {
                x = new AlwaysAhead();
                made.make(x);
            }
            Object[] arguments = new Object[many];
            int rest = number;
            for (int i = 0; i < many; i++) {
                arguments[i] = argument(method.getParameterTypes()[i], far[rest % far.length]);
                rest /= far.length;
            }
            Due.isTrue(method.getName() + java.util.Arrays.toString(arguments), isAnswered(x, method, arguments));
        }
    }

    private static Object argument(Class<?> type, int number) {
        if (type == boolean.class) {
            return number > 0;
        }
        return type == long.class ? (Object) (number * 4294967297L) : (Object) number;
    }

    private static boolean isAnswered(AlwaysAhead x, Method method, Object[] arguments) throws Exception {
        try {
            long answer = ((Number) method.invoke(x, arguments)).longValue();
            String name = method.getName();
            // these may tell any number
            boolean isAny = name.equals("seed") || name.equals("status") || name.equals("element");
            boolean isLow = answer < -6 && !name.equals("drum") && !name.equals("lead");
            return isAny || !isLow;
        } catch (InvocationTargetException thrown) {
            System.out.println(method.getName() + " threw " + thrown.getCause());
            return false;
        }
    }

    /** Every tape of one byte, of a statement cut short at each place, and of a statement with each byte at each place. */
    private static void tapes() {
        String whole = "heap 2 1;heap 1 1;swap 0 1;fact 1 2 3;read ab";
        for (int end = 0; end <= whole.length(); end++) {
            int answer = Due.drum(new AlwaysAhead(), whole.substring(0, end));
            Due.isTrue("15: cut at " + end, answer > 0 && answer <= 5 || answer <= -20 && answer >= -20 - end);
        }
        for (int at = 0; at < whole.length(); at++) {
            for (int letter = 0; letter < 256; letter++) {
                String text = whole.substring(0, at) + (char) letter + whole.substring(at + 1);
                int answer = Due.drum(new AlwaysAhead(), text);
                Due.isTrue("15: '" + text + "'", answer > 0 && answer <= 5 || answer <= -20 && answer >= -20 - whole.length());
            }
        }
    }
}
