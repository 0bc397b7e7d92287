import java.io.File;
import java.io.IOException;
import java.io.OutputStream;
import java.nio.file.Files;
import java.nio.file.Path;
import java.util.ArrayList;
import java.util.List;
import java.util.concurrent.ExecutorService;
import java.util.concurrent.Executors;
import java.util.concurrent.Future;
import java.util.concurrent.TimeUnit;
import java.util.regex.Matcher;
import java.util.regex.Pattern;
import javax.tools.JavaCompiler;
import javax.tools.ToolProvider;

/**
 * Changes the program in one place at a time (a number by one, a comparison, a sign, a line left out) and runs the tests of
 * boundaries on it: prints each change that no test sees. By hand, from the project's folder: java src/test/tools/Mutants.java
 * Not part of .ci/run: some changes make no difference at all, and it takes minutes.
 */
public final class Mutants {
    private static final Path PROGRAM = Path.of("src/main/java/SecretSteps.java");
    private static final Path SUPPORT = Path.of("src/test/support");
    private static final String[] TESTS = {"TermBoundariesTest", "TextBoundariesTest", "PromiseBoundariesTest"};
    /** One start of the Java machine for all tests of a change. */
    private static final String ALL_TESTS = "public final class AllTests { public static void main(String[] a) { "
        + String.join(".main(a); ", TESTS) + ".main(a); } }";
    private static final int SECONDS = 10;
    private static final JavaCompiler COMPILER = ToolProvider.getSystemJavaCompiler();

    /** What is looked for, and what is put in its place. */
    private static final String[][] CHANGES = {
        {" < ", " <= "}, {" <= ", " < "}, {" >= ", " > "}, {" > ", " >= "}, {" == ", " != "}, {" != ", " == "},
        {" && ", " || "}, {" \\|\\| ", " && "}, {" \\+ ", " - "}, {" - ", " + "}, {"\\+\\+;", "--;"}, {"--;", "++;"}, {" & ", " | "}, {" \\| ", " & "},
        {"\\btrue\\b", "false"}, {"\\bfalse\\b", "true"}, {" = [^=;]+;", " = 0;"}, {"\\breturn [^;]+;", "return 0;"}};

    /** A change that is no Java, or that makes a test run on and on, says nothing of what the tests look at. */
    private enum Verdict { NO_JAVA, WRONG_ANSWER, NO_END, UNSEEN }

    private record Mutant(int line, String was, String is, String source) {
    }

    private static List<Mutant> mutants(List<String> lines) {
        List<Mutant> all = new ArrayList<>();
        for (int i = 0; i < lines.size(); i++) {
            String line = lines.get(i);
            if (line.matches("\\s*(/?\\*|//).*")) {
                continue;
            }
            for (String[] change : CHANGES) {
                Matcher m = Pattern.compile(change[0]).matcher(line);
                while (m.find()) {
                    put(all, lines, i, line.substring(0, m.start()) + change[1] + line.substring(m.end()));
                }
            }
            Matcher number = Pattern.compile("(?<![\\w\"'])\\d+(?![\\w\"'])").matcher(line);
            while (number.find()) {
                for (int by = -1; by <= 1; by += 2) {
                    int v = Integer.parseInt(number.group()) + by;
                    put(all, lines, i, line.substring(0, number.start()) + v + line.substring(number.end()));
                }
            }
            if (line.matches("\\s+[^=(]*(\\([^=]*\\)|\\+\\+|--| = .*|break|continue);") && !line.matches("\\s+(private|return|int|long|boolean).*")) {
                put(all, lines, i, "");
            }
        }
        return all;
    }

    private static void put(List<Mutant> all, List<String> lines, int i, String changed) {
        if (changed.equals(lines.get(i))) {
            return;
        }
        List<String> copy = new ArrayList<>(lines);
        copy.set(i, changed);
        all.add(new Mutant(i + 1, lines.get(i).trim(), changed.trim(), String.join("\n", copy) + "\n"));
    }

    private static Verdict tested(Path dir, Path tests) throws IOException, InterruptedException {
        Process p = new ProcessBuilder("java", "-XX:TieredStopAtLevel=1", "-XX:+UseSerialGC", "-cp", dir + ":" + tests, "AllTests")
            .redirectErrorStream(true).redirectOutput(dir.resolve("out").toFile()).start();
        if (!p.waitFor(SECONDS, TimeUnit.SECONDS)) {
            p.destroyForcibly().waitFor();
            return Verdict.NO_END;
        }
        return p.exitValue() == 0 ? Verdict.UNSEEN : Verdict.WRONG_ANSWER;
    }

    /** What the compiler says of a change that is no Java is of no use. */
    private static boolean compiles(String... arguments) {
        return COMPILER.run(null, OutputStream.nullOutputStream(), OutputStream.nullOutputStream(), arguments) == 0;
    }

    private static void compileTests(Path dir) throws IOException {
        String all = Files.writeString(dir.resolve("AllTests.java"), ALL_TESTS).toString();
        String sources = SUPPORT + ":" + Path.of("src/test/java") + ":" + PROGRAM.getParent();
        if (!compiles("-sourcepath", sources, "-d", dir.toString(), all)) {
            throw new IllegalStateException("the tests can not be compiled");
        }
    }

    private static Verdict verdict(String program, Path tests) throws IOException, InterruptedException {
        Path dir = Files.createTempDirectory("mutant");
        try {
            Path source = Files.writeString(dir.resolve("SecretSteps.java"), program);
            return compiles("-nowarn", "-d", dir.toString(), source.toString()) ? tested(dir, tests) : Verdict.NO_JAVA;
        } finally {
            remove(dir);
        }
    }

    private static void remove(Path dir) throws IOException {
        for (File f : dir.toFile().listFiles()) {
            f.delete();
        }
        Files.deleteIfExists(dir);
    }

    public static void main(String[] args) throws Exception {
        Path tests = Files.createTempDirectory("tests");
        compileTests(tests);
        List<String> lines = Files.readAllLines(PROGRAM);
        if (verdict(String.join("\n", lines), tests) != Verdict.UNSEEN) {
            throw new IllegalStateException("the tests fail as it is");
        }
        ExecutorService pool = Executors.newFixedThreadPool(Runtime.getRuntime().availableProcessors());
        List<Mutant> mutants = mutants(lines);
        List<Future<Verdict>> verdicts = new ArrayList<>();
        for (Mutant mutant : mutants) {
            verdicts.add(pool.submit(() -> verdict(mutant.source(), tests)));
        }
        int[] counts = new int[Verdict.values().length];
        for (int i = 0; i < mutants.size(); i++) {
            Verdict v = verdicts.get(i).get();
            counts[v.ordinal()]++;
            if (v == Verdict.UNSEEN || v == Verdict.NO_END) {
                Mutant m = mutants.get(i);
                System.out.println(v + " " + m.line() + ": " + m.was() + "\n     " + m.is());
            }
        }
        pool.shutdown();
        remove(tests);
        for (Verdict v : Verdict.values()) {
            System.out.println(v + ": " + counts[v.ordinal()] + " of " + mutants.size());
        }
    }
}
