import java.lang.reflect.Constructor;
import java.lang.reflect.Field;
import java.lang.reflect.Method;
import java.lang.reflect.Modifier;
import java.util.Set;
import java.util.TreeSet;

/** The public face, as the document has it, and nothing beside it. */
public final class FaceTest {
    private static final String[] FACE = {
        "int row(int,int,int)", "int set(int,int,long)", "int copy(int,int,int,int,int)", "long element(int,int)",
        "int holds(int)", "int drawing(int,int,int)", "int says(int,int)", "int heap(int,int)",
        "int fact(int,int,int)", "int forget(int)", "int swap(int,int)", "int feed(int)", "int wipe()", "int drum()",
        "int heapOf(int,int)", "int factOf(int,int)", "int rows()", "int ways()", "int read(boolean)",
        "int slip(int)", "int again()", "int lead()", "int ahead(int)", "int never()", "int level(int)",
        "int last(int)", "int greatest(int)", "int sure(int)", "int soFar(int,int)", "long spent()", "long mean()",
        "int price(int)", "int often()", "int half()", "int isSure()", "int head()", "int judge(int)",
        "int told(int,int)", "int luck(int)", "int order(boolean,int)", "int lost(int)", "int books(int,int)",
        "int unlike(int,int)", "int draw()", "int evening()", "int seed(int)", "int image()", "int back()",
        "int status(int)",
    };

    public static void main(String[] args) {
        Class<?> face = AlwaysAhead.class;
        Set<String> due = new TreeSet<>(Set.of(FACE));
        Set<String> got = new TreeSet<>();
        Set<String> names = new TreeSet<>();
        for (Method method : face.getDeclaredMethods()) {
            if (Modifier.isPublic(method.getModifiers())) {
                got.add(signature(method));
                names.add(method.getName());
            }
        }
        Due.isTrue("the public methods: " + got, got.equals(due));
        for (Method method : face.getDeclaredMethods()) {
            if (!Modifier.isPublic(method.getModifiers()) && !method.isSynthetic()) {
                Due.isTrue(method + " is private", Modifier.isPrivate(method.getModifiers()));
                Due.isTrue(method + " bears no public name", !names.contains(method.getName()));
            }
        }
        for (Field field : face.getDeclaredFields()) {
            boolean isNone = field.getName().equals("NONE");
            Due.isTrue(field.toString(), isNone ? Modifier.isPublic(field.getModifiers())
                    : Modifier.isPrivate(field.getModifiers()));
            Due.isTrue(field + " is final, if static", !Modifier.isStatic(field.getModifiers())
                    || Modifier.isFinal(field.getModifiers()));
        }
        Constructor<?>[] constructors = face.getDeclaredConstructors();
        Due.is("constructors", constructors.length, 1);
        Due.isTrue("the constructor", Modifier.isPublic(constructors[0].getModifiers())
                && constructors[0].getParameterCount() == 0);
        for (Class<?> inside : face.getDeclaredClasses()) {
            Due.isTrue(inside + " is static and not public", Modifier.isStatic(inside.getModifiers())
                    && !Modifier.isPublic(inside.getModifiers()));
            for (Method method : inside.getDeclaredMethods()) {
                Due.isTrue(method + " bears no public name", !names.contains(method.getName()));
            }
        }
        Due.isTrue("the class", Modifier.isFinal(face.getModifiers()) && Modifier.isPublic(face.getModifiers()));
        Due.is("NONE", AlwaysAhead.NONE, -1);
        Due.end("FaceTest");
    }

    private static String signature(Method method) {
        StringBuilder text = new StringBuilder();
        text.append(method.getReturnType()).append(' ').append(method.getName()).append('(');
        for (int i = 0; i < method.getParameterCount(); i++) {
            text.append(i > 0 ? "," : "").append(method.getParameterTypes()[i]);
        }
        return text.append(')').toString();
    }
}
