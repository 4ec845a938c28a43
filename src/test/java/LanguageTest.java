import java.lang.reflect.Field;
import java.lang.reflect.Modifier;
import java.nio.file.Files;
import java.nio.file.Path;
import java.util.Map;
import java.util.TreeMap;
import java.util.regex.Matcher;
import java.util.regex.Pattern;

/** What of LANGUAGE.md can be seen in the text of the class. Runs in the project's folder. */
public final class LanguageTest {
    private static final String[] NOT_THERE = {
        "\\b(throw|throws|try|catch|synchronized|assert|package|native|volatile|protected)\\b",
        "->", "::", "\\bvar\\b", "\\.equals\\(", "\\bhashCode\\b", "\\btoString\\b",
        "\\bSystem\\.(?!arraycopy\\()", "\\bArrays\\.(?!(copyOf|copyOfRange|fill)\\()",
        "\\bMath\\.\\w*(Exact|random)\\b", "\\bMath\\.(?!(max|min|abs|floorDiv|floorMod)\\()",
        "\\b(Object|Thread|Runtime|Class|Iterator|Map|HashMap|Random)\\b", "\\[\\]\\s*\\[\\]\\s*\\[\\]",
        "(?m)^import (?!java\\.util\\.(Arrays|ArrayList|List|Iterator);)", "while \\(true\\)", "for \\(;;",
    };

    public static void main(String[] args) throws Exception {
        String text = Files.readString(Path.of("src/main/java/AlwaysAhead.java"));
        Due.isTrue("signs are 9, 10 and 32 to 126", text.matches("[\\t\\n -~]*"));
        String code = text.replaceAll("(?s)/\\*.*?\\*/", "").replaceAll("//.*", "").replaceAll("\"[^\"\n]*\"", "\"\"");
        for (String sign : NOT_THERE) {
            Matcher found = Pattern.compile(sign).matcher(code);
            boolean isThere = found.find();
            Due.isTrue(sign + " is not there" + (isThere ? ": " + found.group() : ""), !isThere);
        }
        int classes = count(code, "\\b(class|record|enum|interface)\\s+\\w+");
        Due.isTrue("twelve classes at most: " + classes, classes <= 12);
        Due.is("inner classes that aren't static", count(code, "(?<!static final |public final |static )class \\w+"), 0);
        Due.is("static fields that aren't final", count(code, "\\bstatic (?!final|abstract|\\w+(\\[\\])? \\w+\\()"), 0);
        methods(code);
        fields();
        Due.end("LanguageTest");
    }

    private static int count(String code, String sign) {
        Matcher found = Pattern.compile(sign).matcher(code);
        int many = 0;
        while (found.find()) {
            many++;
        }
        return many;
    }

    /** Methods are known by what stands in front of them: they begin a line, and end with } as far in. */
    private static void methods(String code) {
        Matcher method = Pattern.compile(
                "(?m)^( {4}| {8})(?:(?:public|private|static|final) )*[\\w\\[\\]]+(?: (\\w+))?\\(([^)]*)\\) \\{$").matcher(code);
        Map<String, String> bodies = new TreeMap<>();
        int many = 0;
        while (method.find()) {
            many++;
            int end = code.indexOf("\n" + method.group(1) + "}", method.end());
            String body = code.substring(method.end(), end);
            bodies.put(method.group(2) == null ? "new" : method.group(2), body);
            int lines = body.split("\n").length;
            Due.isTrue(method.group(2) + " has sixty lines at most: " + lines, lines <= 60);
            Due.isTrue(method.group(2) + " has seven parameters at most", method.group(3).split(",").length <= 7);
        }
        Due.isTrue("methods are found: " + many, many > 100);
        Due.is("methods are told by their names", bodies.size(), many);
        for (String name : bodies.keySet()) {
            int deep = depth(bodies, name, 0);
            Due.isTrue(name + " goes eight calls deep at most, itself the first: " + deep, deep <= 8);
        }
    }

    /** How many calls stand open at most; more than eight also if a method calls itself by some way. */
    private static int depth(Map<String, String> bodies, String name, int above) {
        int below = 0;
        Matcher call = Pattern.compile("(?<!new )\\b(\\w+)\\(").matcher(bodies.get(name));
        while (above < 9 && call.find()) {
            if (bodies.containsKey(call.group(1))) {
                below = Math.max(below, depth(bodies, call.group(1), above + 1));
            }
        }
        return below + 1;
    }

    private static void fields() {
        fieldsOf(AlwaysAhead.class);
        for (Class<?> inside : AlwaysAhead.class.getDeclaredClasses()) {
            fieldsOf(inside);
        }
    }

    private static void fieldsOf(Class<?> of) {
        int many = 0;
        for (Field field : of.getDeclaredFields()) {
            many += Modifier.isStatic(field.getModifiers()) ? 0 : 1;
        }
        Due.isTrue(of + " has twenty fields at most: " + many, many <= 20);
    }
}
