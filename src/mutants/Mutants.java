import java.io.File;
import java.io.IOException;
import java.nio.charset.StandardCharsets;
import java.nio.file.Files;
import java.nio.file.Path;
import java.util.ArrayList;
import java.util.List;
import java.util.concurrent.Callable;
import java.util.concurrent.ExecutorService;
import java.util.concurrent.Executors;
import java.util.concurrent.Future;
import java.util.concurrent.TimeUnit;

/**
 * Breaks a sentence of the document in a copy of the class, one at a time, and looks that a test of edges
 * fails and says that promise. Arguments: the class's file, the list of changes, the tests' classes, a
 * folder to work in, and the names of the tests.
 */
public final class Mutants {
    private record Mutant(int line, String promise, int which, String from, String to) {
    }

    public static void main(String[] args) throws Exception {
        String text = Files.readString(Path.of(args[0]));
        List<Mutant> mutants = read(Path.of(args[1]));
        ExecutorService pool = Executors.newFixedThreadPool(Runtime.getRuntime().availableProcessors());
        List<Future<String>> told = new ArrayList<>();
        for (Mutant mutant : mutants) {
            Callable<String> work = () -> live(mutant, text, args);
            told.add(pool.submit(work));
        }
        int alive = 0;
        for (Future<String> one : told) {
            if (!one.get().isEmpty()) {
                alive++;
                System.out.println(one.get());
            }
        }
        pool.shutdown();
        System.out.println(mutants.size() + " changes, " + alive + " of them not found by the tests");
        System.exit(alive == 0 ? 0 : 1);
    }

    /** A line: promise, which occurrence (from 1 on), what stands there, what shall stand there. */
    private static List<Mutant> read(Path list) throws IOException {
        List<Mutant> mutants = new ArrayList<>();
        int number = 0;
        for (String line : Files.readAllLines(list)) {
            number++;
            if (!line.isBlank() && !line.startsWith("#")) {
                String[] parts = (line + " ").split(" ~ ", -1);
                if (parts.length != 4) {
                    throw new IOException("line " + number + " has " + parts.length + " parts: " + line);
                }
                mutants.add(new Mutant(number, parts[0].trim(), Integer.parseInt(parts[1].trim()),
                        parts[2].replace("\\n", "\n"), parts[3].replace("\\n", "\n")));
            }
        }
        return mutants;
    }

    /** What is to be said of a change that no test finds; nothing, if one does. */
    private static String live(Mutant mutant, String text, String[] args) throws Exception {
        int at = -1;
        for (int i = 0; i < mutant.which; i++) {
            at = text.indexOf(mutant.from, at + 1);
            if (at < 0) {
                return "line " + mutant.line + ": it isn't there: " + mutant.from;
            }
        }
        Path folder = Path.of(args[3], "mutant" + mutant.line);
        Files.createDirectories(folder);
        Path file = folder.resolve("AlwaysAhead.java");
        Files.writeString(file, text.substring(0, at) + mutant.to + text.substring(at + mutant.from.length()));
        String compiled = run(folder, "javac", "-nowarn", "-d", folder.toString(), file.toString());
        if (!Files.exists(folder.resolve("AlwaysAhead.class"))) {
            return "line " + mutant.line + ": it doesn't compile: " + compiled;
        }
        StringBuilder said = new StringBuilder();
        for (int i = 4; i < args.length; i++) {
            String out = run(folder, "java", "-cp", folder + File.pathSeparator + args[2], args[i]);
            if (("\n" + out).contains("\n" + mutant.promise + ": ")) {
                return "";
            }
            said.append(out.lines().filter(line -> !line.contains(", 0 not as due")).limit(2).toList());
        }
        return "line " + mutant.line + ": promise " + mutant.promise + ": " + mutant.from + " ~ " + mutant.to + " " + said;
    }

    private static String run(Path folder, String... command) throws Exception {
        File out = folder.resolve("out" + System.nanoTime()).toFile();
        Process process = new ProcessBuilder(command).redirectErrorStream(true).redirectOutput(out).start();
        if (!process.waitFor(60, TimeUnit.SECONDS)) {
            process.destroyForcibly();
        }
        return Files.readString(out.toPath(), StandardCharsets.ISO_8859_1);
    }
}
