import java.io.File;
import java.io.IOException;
import java.io.OutputStream;
import java.nio.file.Files;
import java.nio.file.Path;
import java.util.ArrayList;
import java.util.List;
import java.util.concurrent.ExecutorService;
import java.util.concurrent.Executors;
import java.util.concurrent.Future;
import java.util.concurrent.TimeUnit;
import java.util.regex.Matcher;
import java.util.regex.Pattern;
import javax.tools.JavaCompiler;
import javax.tools.ToolProvider;

/**
 * Changes the program in one place at a time (a number by one, a comparison, a sign, a line left out) and runs the tests of
 * boundaries on it: prints each change that no test sees. By hand, from the project's folder: java src/test/tools/Mutants.java
 * Not part of .ci/run: some changes make no difference at all, and it takes minutes.
 */
public final class Mutants {
    private static final Path PROGRAM = Path.of("src/main/java/SecretSteps.java");
    private static final Path SUPPORT = Path.of("src/test/support");
    private static final String[] TESTS = {"TermBoundariesTest", "TextBoundariesTest", "PromiseBoundariesTest"};
    /** One start of the Java machine for all tests of a change. */
    private static final String ALL_TESTS = "public final class AllTests { public static void main(String[] a) { "
        + String.join(".main(a); ", TESTS) + ".main(a); } }";
    private static final int SECONDS = 10;
    private static final JavaCompiler COMPILER = ToolProvider.getSystemJavaCompiler();

    /** What is looked for, and what is put in its place. */
    private static final String[][] CHANGES = {
        {" < ", " <= "}, {" <= ", " < "}, {" >= ", " > "}, {" > ", " >= "}, {" == ", " != "}, {" != ", " == "},
        {" && ", " || "}, {" \\|\\| ", " && "}, {" \\+ ", " - "}, {" - ", " + "}, {"\\+\\+;", "--;"}, {"--;", "++;"}, {" & ", " | "}, {" \\| ", " & "},
        {"\\btrue\\b", "false"}, {"\\bfalse\\b", "true"}, {" = [^=;]+;", " = 0;"}, {"\\breturn [^;]+;", "return 0;"}};

    private record Mutant(int line, String was, String is, String source) {
    }

    private static List<Mutant> mutants(List<String> lines) {
        List<Mutant> all = new ArrayList<>();
        for (int i = 0; i < lines.size(); i++) {
            String line = lines.get(i);
            if (line.matches("\\s*(/?\\*|//).*")) {
                continue;
            }
            for (String[] change : CHANGES) {
                Matcher m = Pattern.compile(change[0]).matcher(line);
                while (m.find()) {
                    put(all, lines, i, line.substring(0, m.start()) + change[1] + line.substring(m.end()));
                }
            }
            Matcher number = Pattern.compile("(?<![\\w\"'])\\d+(?![\\w\"'])").matcher(line);
            while (number.find()) {
                for (int by = -1; by <= 1; by += 2) {
                    int v = Integer.parseInt(number.group()) + by;
                    put(all, lines, i, line.substring(0, number.start()) + v + line.substring(number.end()));
                }
            }
            if (line.matches("\\s+[^=(]*(\\([^=]*\\)|\\+\\+|--| = .*|break|continue);") && !line.matches("\\s+(private|return|int|long|boolean).*")) {
                put(all, lines, i, "");
            }
        }
        return all;
    }

    private static void put(List<Mutant> all, List<String> lines, int i, String changed) {
        if (changed.equals(lines.get(i))) {
            return;
        }
        List<String> copy = new ArrayList<>(lines);
        copy.set(i, changed);
        all.add(new Mutant(i + 1, lines.get(i).trim(), changed.trim(), String.join("\n", copy) + "\n"));
    }

    private static boolean passes(Path dir, String... command) throws IOException, InterruptedException {
        Process p = new ProcessBuilder(command).redirectErrorStream(true).redirectOutput(dir.resolve("out").toFile()).start();
        boolean ended = p.waitFor(SECONDS, TimeUnit.SECONDS);
        if (!ended) {
            p.destroyForcibly().waitFor();
        }
        return ended && p.exitValue() == 0;
    }

    /** What the compiler says of a change that is no Java is of no use. */
    private static boolean compiles(String... arguments) {
        return COMPILER.run(null, OutputStream.nullOutputStream(), OutputStream.nullOutputStream(), arguments) == 0;
    }

    private static void compileTests(Path dir) throws IOException {
        String all = Files.writeString(dir.resolve("AllTests.java"), ALL_TESTS).toString();
        String sources = SUPPORT + ":" + Path.of("src/test/java") + ":" + PROGRAM.getParent();
        if (!compiles("-sourcepath", sources, "-d", dir.toString(), all)) {
            throw new IllegalStateException("the tests can not be compiled");
        }
    }

    /** null: seen by a test; else what to say of it. */
    private static String verdict(Mutant mutant, Path tests) throws Exception {
        Path dir = Files.createTempDirectory("mutant");
        try {
            Path source = Files.writeString(dir.resolve("SecretSteps.java"), mutant.source());
            if (!compiles("-nowarn", "-d", dir.toString(), source.toString())
                || !passes(dir, "java", "-XX:TieredStopAtLevel=1", "-XX:+UseSerialGC", "-cp", dir + ":" + tests, "AllTests")) {
                return null;
            }
            return mutant.line() + ": " + mutant.was() + "\n     " + mutant.is();
        } finally {
            remove(dir);
        }
    }

    private static void remove(Path dir) throws IOException {
        for (File f : dir.toFile().listFiles()) {
            f.delete();
        }
        Files.deleteIfExists(dir);
    }

    public static void main(String[] args) throws Exception {
        Path tests = Files.createTempDirectory("tests");
        compileTests(tests);
        List<String> lines = Files.readAllLines(PROGRAM);
        if (verdict(new Mutant(0, "", "", String.join("\n", lines)), tests) == null) {
            throw new IllegalStateException("the tests fail as it is");
        }
        ExecutorService pool = Executors.newFixedThreadPool(Runtime.getRuntime().availableProcessors());
        List<Future<String>> verdicts = new ArrayList<>();
        for (Mutant mutant : mutants(lines)) {
            verdicts.add(pool.submit(() -> verdict(mutant, tests)));
        }
        int unseen = 0;
        for (Future<String> v : verdicts) {
            if (v.get() != null) {
                unseen++;
                System.out.println(v.get());
            }
        }
        pool.shutdown();
        remove(tests);
        System.out.println(verdicts.size() + " changes, " + unseen + " that no test sees");
    }
}
