import java.io.IOException;
import java.nio.file.Files;
import java.nio.file.Path;
import java.util.ArrayList;
import java.util.List;
import java.util.Set;
import java.util.TreeSet;

/** What the tests of boundaries share: a sentence of the document, quoted, and the answers that are due by it. */
class BoundaryRows {
    static final int NONE = -1, BAD = -2, NO = -3, FULL = -4;
    static final int SET = 0, MOVE = 1, ADD = 2, AND = 3, XOR = 4, LOAD = 5, DIVIDE = 6, JUMP = 7, PICK = 8;
    static final int[] LOOKS_AT_NOTHING = l(MOVE, 5, 5, 0);

    private static final Path DOCUMENT = Path.of("../shared/DOC.md");
    private static final List<String> document = readDocument();
    private static final Set<String> headings = new TreeSet<>();

    private static String heading = "";
    private static String sentence = "";
    private static int sentences = 0;
    private static int rowsOfSentence = 0;
    private static int rows = 0;
    private static int wrong = 0;

    /** The rows that follow are due by these words, which must stand so under that heading, "Terms" or "Promise n". */
    static void says(String under, String words) {
        endSentence();
        heading = under;
        sentence = words;
        sentences++;
        headings.add(under);
        if (!document.isEmpty() && !section(under).contains(words)) {
            fails("the document does not say so there");
        }
    }

    static void due(String call, long got, long want) {
        rows++;
        rowsOfSentence++;
        if (got != want) {
            fails(call + " answered " + got + ", due is " + want);
        }
    }

    /** Each answer in its turn, on one object. */
    static void dueAll(String call, int[] got, int... want) {
        due(call + ": answers", got.length, want.length);
        for (int i = 0; i < Math.min(got.length, want.length); i++) {
            due(call + " [" + i + "]", got[i], want[i]);
        }
    }

    static boolean hasHeading(String under) {
        return headings.contains(under);
    }

    static void endAll(String name) {
        endSentence();
        System.out.println(name + ": " + sentences + " sentences, " + rows + " answers asked, " + wrong + " wrong");
        if (wrong != 0) {
            System.exit(1);
        }
    }

    private static void endSentence() {
        if (!sentence.isEmpty() && rowsOfSentence == 0) {
            fails("nothing is asked of it");
        }
        sentence = "";
        rowsOfSentence = 0;
    }

    private static void fails(String what) {
        wrong++;
        System.out.println(heading + " \"" + sentence + "\": " + what);
    }

    /** Without the document the answers are asked all the same; only the quotes are not looked at. */
    private static List<String> readDocument() {
        try {
            return Files.readAllLines(DOCUMENT);
        } catch (IOException none) {
            System.out.println("no " + DOCUMENT + ": quotes are not looked at");
            return List.of();
        }
    }

    private static String section(String under) {
        List<String> lines = new ArrayList<>();
        boolean in = false;
        for (String line : document) {
            if (line.startsWith("## ")) {
                in = line.equals("## " + under) || line.startsWith("## " + under + ":");
            } else if (in) {
                lines.add(line);
            }
        }
        return String.join("\n", lines);
    }

    // ---- programs and texts

    static int[] l(int k, int x, int y, int z) {
        return new int[] {k, x, y, z};
    }

    static int add(SecretSteps x, int[] row) {
        return x.line(row[0], row[1], row[2], row[3]);
    }

    static SecretSteps program(int secretBits, int[]... rows) {
        SecretSteps x = new SecretSteps();
        for (int v = 0; v < 6; v++) {
            if ((secretBits >> v & 1) == 1) {
                x.secret(v, 1);
            }
        }
        for (int[] row : rows) {
            add(x, row);
        }
        return x;
    }

    /** A program of so many LINES that see nothing and change nothing. */
    static SecretSteps idle(int count) {
        SecretSteps x = new SecretSteps();
        for (int i = 0; i < count; i++) {
            add(x, LOOKS_AT_NOTHING);
        }
        return x;
    }

    static void type(SecretSteps x, String text) {
        for (int i = 0; i < text.length(); i++) {
            x.type(text.charAt(i));
        }
    }

    /** What does() answers to this text alone. */
    static int done(SecretSteps x, String text) {
        x.clear();
        type(x, text);
        return x.does();
    }

    static int doneNew(String text) {
        return done(new SecretSteps(), text);
    }

    static int fault(int place) {
        return -10 - place;
    }

    static int ends(int order) {
        return -1000 - order;
    }

    /** All that told, of and refused tell of an object, but how often refused. */
    static int[] all(SecretSteps x) {
        int lines = x.told(0);
        int[] seen = new int[26 + 4 * lines];
        for (int what = 0; what < 24; what++) {
            seen[what] = x.told(what);
        }
        seen[24] = x.refused(3);
        seen[25] = x.refused(4);
        for (int at = 0; at < 4 * lines; at++) {
            seen[26 + at] = x.of(at / 4, at % 4);
        }
        return seen;
    }
}
