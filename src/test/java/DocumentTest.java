import java.io.IOException;
import java.lang.reflect.Field;
import java.lang.reflect.Method;
import java.lang.reflect.Modifier;
import java.lang.reflect.Parameter;
import java.nio.file.Files;
import java.nio.file.Path;
import java.util.ArrayList;
import java.util.Arrays;
import java.util.LinkedHashMap;
import java.util.List;
import java.util.Map;
import java.util.Set;
import java.util.TreeSet;
import java.util.regex.Matcher;
import java.util.regex.Pattern;

/**
 * The document, from its first line: the face is the one that it shows, its headings stand ahead of the calls, and each word
 * of its terms and promises stands in a sentence that a test of boundaries quotes.
 */
public final class DocumentTest {
    private static final Path DOCUMENT = Path.of("../shared/DOC.md");
    private static final Path PROGRAM = Path.of("src/main/java/SecretSteps.java");
    private static final Path TESTS = Path.of("src/test/java");
    private static final Pattern QUOTE = Pattern.compile("says\\(\"([^\"]+)\", \"([^\"]+)\"\\)");
    private static final Pattern GROUP = Pattern.compile("Ahead of the calls (.+) the interface says: (---- [a-z ]+)\\.");
    /** What stands between the sentences: the names of what follows, and the marks of a text set apart. */
    private static final Set<String> BETWEEN = Set.of("```text", "```", "======== 2 PART:", "WHAT LINES TELL:", "tells ORDERS,");

    private static int wrong = 0;
    private static int quotes = 0;

    private static void holds(boolean so, String what) {
        if (!so) {
            wrong++;
            System.out.println("does not hold: " + what);
        }
    }

    private static Map<String, String> sections(String document) {
        Map<String, String> sections = new LinkedHashMap<>();
        for (String part : document.split("(?m)^## ")) {
            int end = part.indexOf('\n');
            sections.put(part.substring(0, end), part.substring(end + 1));
        }
        return sections;
    }

    // ---- the face

    private static Set<String> matches(String text, String pattern) {
        Set<String> found = new TreeSet<>();
        Matcher m = Pattern.compile(pattern, Pattern.MULTILINE).matcher(text);
        while (m.find()) {
            found.add(m.group(1));
        }
        return found;
    }

    private static void face(String section) throws Exception {
        Set<String> constants = new TreeSet<>();
        for (String row : matches(section, "^ +public static final int (.+);$")) {
            constants.addAll(List.of(row.split(", ")));
        }
        Set<String> ownConstants = new TreeSet<>();
        for (Field f : SecretSteps.class.getFields()) {
            ownConstants.add(f.getName() + " = " + f.getInt(null));
        }
        holds(constants.equals(ownConstants), "the constants are " + constants + ": " + ownConstants);
        Set<String> methods = matches(section, "^ +public ((?:int|long) \\w+\\(.*\\));$");
        Set<String> ownMethods = new TreeSet<>();
        for (Method m : SecretSteps.class.getDeclaredMethods()) {
            if (Modifier.isPublic(m.getModifiers())) {
                ownMethods.add(withoutNames(m));
            }
        }
        Set<String> unnamed = new TreeSet<>();
        for (String m : methods) {
            unnamed.add(m.replaceAll("(int) \\w+([,)])", "$1$2"));
        }
        holds(unnamed.size() == 22 && unnamed.equals(ownMethods), "the methods are " + unnamed + ": " + ownMethods);
        String source = Files.readString(PROGRAM);
        for (String m : methods) {
            holds(source.contains("public " + m + " {"), "its numbers have the document's names: " + m);
        }
    }

    private static String withoutNames(Method m) {
        List<String> types = new ArrayList<>();
        for (Parameter p : m.getParameters()) {
            types.add(p.getType().getSimpleName());
        }
        return m.getReturnType().getSimpleName() + " " + m.getName() + "(" + String.join(", ", types) + ")";
    }

    /** Ahead of each group of calls its heading, and then those calls, in their order. */
    private static void groups(String section) throws IOException {
        String source = Files.readString(PROGRAM);
        Matcher group = GROUP.matcher(section);
        int groups = 0;
        while (group.find()) {
            groups++;
            int from = source.indexOf("// " + group.group(2) + "\n");
            holds(from >= 0, "the program has " + group.group(2));
            int to = source.indexOf("// ----", from + 1);
            List<String> calls = new ArrayList<>();
            Matcher call = Pattern.compile("public \\w+ (\\w+)\\(").matcher(source.substring(Math.max(from, 0), to));
            while (call.find()) {
                calls.add("`" + call.group(1) + "`");
            }
            holds(String.join(", ", calls).equals(group.group(1)), group.group(2) + " of " + group.group(1) + ": " + calls);
        }
        holds(groups == 5, "five groups of calls: " + groups);
    }

    // ---- the sentences

    private static Map<String, List<String>> quoted() throws IOException {
        Map<String, List<String>> quoted = new LinkedHashMap<>();
        try (var files = Files.list(TESTS)) {
            for (Path test : files.filter(p -> p.toString().endsWith("BoundariesTest.java")).sorted().toList()) {
                Matcher m = QUOTE.matcher(Files.readString(test));
                while (m.find()) {
                    quoted.computeIfAbsent(m.group(1), under -> new ArrayList<>()).add(m.group(2));
                    quotes++;
                }
            }
        }
        return quoted;
    }

    /** What is left of a text, piece by piece, without the quotes. */
    private static List<String> left(String text, List<String> quotes) {
        boolean[] taken = new boolean[text.length()];
        for (String quote : quotes) {
            for (int at = text.indexOf(quote); at >= 0; at = text.indexOf(quote, at + 1)) {
                Arrays.fill(taken, at, at + quote.length(), true);
            }
        }
        StringBuilder rest = new StringBuilder();
        for (int i = 0; i < taken.length; i++) {
            rest.append(taken[i] ? '\n' : text.charAt(i));
        }
        List<String> pieces = new ArrayList<>();
        for (String piece : rest.toString().split("\n")) {
            if (piece.matches(".*[\\w`].*")) {
                pieces.add(piece.trim());
            }
        }
        return pieces;
    }

    private static void sentences(Map<String, String> sections) throws IOException {
        Map<String, List<String>> quoted = quoted();
        int promises = 0;
        for (Map.Entry<String, String> section : sections.entrySet()) {
            String name = section.getKey().replaceAll(":.*", "");
            boolean promise = name.startsWith("Promise ");
            if (!promise && !name.equals("Terms")) {
                continue;
            }
            promises += promise ? 1 : 0;
            for (String piece : left(section.getValue(), quoted.getOrDefault(name, List.of()))) {
                boolean signature = promise && piece.matches("`.*\\)`:");
                holds(signature || BETWEEN.contains(piece) || GROUP.matcher(piece).matches(), name + ": a test quotes \"" + piece + "\"");
            }
        }
        holds(promises == 23, "23 promises: " + promises);
    }

    public static void main(String[] args) throws Exception {
        if (Files.exists(DOCUMENT)) {
            Map<String, String> sections = sections(Files.readString(DOCUMENT));
            face(sections.getOrDefault("The public face", ""));
            groups(sections.getOrDefault("Terms", ""));
            sentences(sections);
        } else {
            System.out.println("no " + DOCUMENT + ": nothing is looked at");
        }
        System.out.println("DocumentTest: " + quotes + " quotes, " + wrong + " wrong");
        if (wrong != 0) {
            System.exit(1);
        }
    }
}
