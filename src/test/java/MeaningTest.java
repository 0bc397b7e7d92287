import java.util.ArrayList;
import java.util.List;
import java.util.Random;

/**
 * What lines tell, held against the RUNS themselves, by programs drawn by fixed seeds. Nothing here knows how TAINTED and
 * KNOWN are found: a place that a RUN comes to is come to, what is KNOWN has that number there, and what is not TAINTED is
 * alike by all SECRETS, as long as no JUMP that gives the ALARM has been done. A program that is accepted has no LEAK.
 */
public final class MeaningTest {
    private static final int PROGRAMS = 600;
    private static final int SET = 0, LOAD = 5, DIVIDE = 6, JUMP = 7, PICK = 8;
    /** How often a KIND is drawn: jumps and selections more often than what always gives the alarm. */
    private static final int[] DRAWN = {0, 0, 0, 0, 1, 1, 2, 2, 3, 3, 4, 4, 4, 5, 6, 7, 7, 7, 8, 8, 8};

    /** One step of a RUN: the place that it has come to, and VARIABLES there. */
    private record Step(int place, int[] values) {
    }

    private final Random random;
    private final long seed;
    private final List<int[]> lines = new ArrayList<>();
    private final int[] table = new int[16];
    private final int[] starts = new int[6];
    private int secretBits;
    private boolean right = true;

    private MeaningTest(long seed) {
        this.seed = seed;
        random = new Random(seed);
    }

    private void draw() {
        int variables = 2 + random.nextInt(5);
        for (int n = random.nextInt(3); n > 0; n--) {
            secretBits |= 1 << random.nextInt(variables);
        }
        for (int i = 0; i < 16; i++) {
            table[i] = random.nextInt(4) == 0 ? random.nextInt(16) : i;
        }
        for (int x = 0; x < 6; x++) {
            starts[x] = random.nextInt(3) == 0 ? random.nextInt(16) : random.nextInt(2);
        }
        int count = 1 + random.nextInt(20);
        for (int i = 0; i < count; i++) {
            int k = DRAWN[random.nextInt(DRAWN.length)];
            int x = random.nextInt(variables);
            int y = k == SET ? random.nextInt(3) * random.nextInt(8) : k == JUMP ? random.nextInt(count + 1) : random.nextInt(variables);
            lines.add(new int[] {k, x, y, k == PICK ? random.nextInt(variables) : 0});
        }
    }

    /** An object is good for 512 calls, so each question has its own. */
    private SecretSteps made() {
        SecretSteps made = new SecretSteps();
        for (int x = 0; x < 6; x++) {
            made.start(x, starts[x]);
            made.secret(x, secretBits >> x & 1);
        }
        for (int i = 0; i < 16; i++) {
            made.table(i, table[i]);
        }
        for (int[] l : lines) {
            made.line(l[0], l[1], l[2], l[3]);
        }
        return made;
    }

    private void holds(boolean so, String what) {
        if (!so && right) {
            right = false;
            StringBuilder program = new StringBuilder();
            for (int[] l : lines) {
                program.append(" (" + l[0] + " " + l[1] + " " + l[2] + " " + l[3] + ")");
            }
            System.out.println("seed " + seed + ": does not hold: " + what + "; SECRET " + secretBits + ", LINES" + program);
        }
    }

    // ---- the runs

    private static int made(int k, int x, int y, int z, int[] table) {
        int quotient = y == 0 ? 15 : x / y;
        int[] by = {y, y, x + y & 15, x & y, x ^ y, table[y & 15], quotient, x, x != 0 ? y : z};
        return by[k];
    }

    private List<Step> stepsBy(int secrets) {
        int[] v = starts.clone();
        for (int x = 0, rest = secrets; x < 6; x++) {
            if ((secretBits >> x & 1) == 1) {
                v[x] = rest & 15;
                rest >>= 4;
            }
        }
        List<Step> steps = new ArrayList<>();
        int place = 0;
        for (int n = 0; n < 60 && place < lines.size(); n++) {
            steps.add(new Step(place, v.clone()));
            int[] l = lines.get(place);
            boolean jumps = l[0] == JUMP && v[l[1]] != 0;
            if (l[0] != JUMP) {
                v[l[1]] = made(l[0], v[l[1]], l[0] == SET ? l[2] : v[l[2]], v[l[3]], table);
            }
            place = jumps ? Math.min(l[2], lines.size()) : place + 1;
        }
        steps.add(new Step(place, v));
        return steps;
    }

    // ---- what is asked of them

    private int[][] known;
    private int[][] tainted;

    private void askLines() {
        SecretSteps x = made();
        known = new int[lines.size() + 1][6];
        tainted = new int[lines.size() + 1][6];
        for (int i = 0; i <= lines.size(); i++) {
            for (int v = 0; v < 6; v++) {
                tainted[i][v] = x.ahead(i, v, 0);
                known[i][v] = x.ahead(i, v, 1);
            }
        }
    }

    private void asKnown(List<Step> steps) {
        for (Step step : steps) {
            int i = step.place();
            for (int v = 0; v < 6; v++) {
                holds(tainted[i][v] != SecretSteps.NO, "LINE " + i + " is come to");
                int number = known[i][v];
                holds(number == SecretSteps.NONE || number == step.values()[v], "VARIABLE " + v + " is " + number + " ahead of LINE " + i);
            }
        }
    }

    private boolean givesAlarm(int i) {
        int[] l = lines.get(i);
        boolean ofX = tainted[i][l[1]] == 1 && (l[0] == DIVIDE || l[0] == JUMP);
        return ofX || (l[0] == LOAD || l[0] == DIVIDE) && tainted[i][l[2]] == 1;
    }

    private void alikeWhereNotTainted(List<Step> a, List<Step> b) {
        for (int n = 0; n < a.size() && n < b.size(); n++) {
            int i = a.get(n).place();
            holds(i == b.get(n).place(), "both come to LINE " + i);
            for (int v = 0; v < 6; v++) {
                holds(tainted[i][v] == 1 || a.get(n).values()[v] == b.get(n).values()[v], "VARIABLE " + v + " is alike ahead of LINE " + i);
            }
            if (!right || i < lines.size() && lines.get(i)[0] == JUMP && givesAlarm(i)) {
                return;
            }
        }
    }

    private void alarmsAre() {
        SecretSteps x = made();
        int n = 0;
        for (int i = 0; i < lines.size(); i++) {
            if (tainted[i][0] != SecretSteps.NO && givesAlarm(i)) {
                holds(x.alarm(n) == i, "ALARM " + n + " is LINE " + i);
                n++;
            }
        }
        holds(x.alarm(n) == SecretSteps.NONE, "ALARMS are " + n);
        holds(x.accepted() == (n == 0 ? 1 : 0), "accepted, if there is no ALARM");
        if (n == 0) {
            holds(x.leak() == SecretSteps.NONE && x.rows() == 1, "accepted, so there is no LEAK");
        }
    }

    private boolean look() {
        draw();
        askLines();
        SecretSteps runs = made();
        List<Step> first = stepsBy(0);
        int end = 1 << 4 * Integer.bitCount(secretBits);
        for (int s = 0; s < end && right; s++) {
            List<Step> steps = stepsBy(s);
            Step last = steps.get(steps.size() - 1);
            holds(runs.run(s, 0) == steps.size() - 1, "STEPS by " + s);
            asKnown(steps);
            alikeWhereNotTainted(first, steps);
            holds(s % 16 != 0 || runs.run(s, 1) == (last.place() < lines.size() ? 1 : 0), "CUT by " + s);
        }
        alarmsAre();
        return right;
    }

    public static void main(String[] args) {
        int wrong = 0;
        int accepted = 0;
        for (long seed = 1; seed <= PROGRAMS; seed++) {
            MeaningTest test = new MeaningTest(seed);
            wrong += test.look() ? 0 : 1;
            accepted += test.secretBits != 0 && test.made().accepted() == 1 ? 1 : 0;
        }
        System.out.println("MeaningTest: " + PROGRAMS + " programs, " + accepted + " with secrets accepted, " + wrong + " wrong");
        if (wrong != 0 || accepted == 0) {
            System.exit(1);
        }
    }
}
