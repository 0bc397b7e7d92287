/**
 * A program whose steps must tell nothing of its secrets: its lines, its runs and what an onlooker
 * sees of them, what the lines alone tell, and a text of orders. The document's words (VARIABLE,
 * LINE, SIGHT, STATE ..) are meant where they are used below.
 */
public final class SecretSteps {
    public static final int NONE = -1, BAD = -2, NO = -3, FULL = -4;

    private static final int VARIABLES = 6;
    private static final int NUMBERS = 16;
    private static final int MOST_SECRET = 2;
    private static final int MOST_LINES = 20;
    private static final int MOST_STEPS = 60;
    private static final int MOST_SIGHTS = MOST_STEPS + 1;
    private static final int MOST_SECRETS = 256;
    private static final int MOST_STATES = 5;
    private static final int MOST_BYTES = 120;

    private static final int SET = 0, MOVE = 1, ADD = 2, AND = 3, XOR = 4, LOAD = 5, DIVIDE = 6, JUMP = 7, PICK = 8;

    /** A LINE stands in a row as its KIND, x, y, z. */
    private static final int PARTS = 4;

    private final Program program = new Program();
    /** A change is made here first, so that a refused one leaves nothing behind. */
    private final Program sketch = new Program();
    private final History history = new History();
    private final Text text = new Text();
    private final Run first = new Run();
    private final Run second = new Run();
    private final Flow flow = new Flow();
    private final Survey survey = new Survey();
    /** Whether flow and survey tell of the program as it is now: they are asked far more often than it changes. */
    private boolean flowFresh, surveyFresh;
    private int badCalls, noCalls, fullCalls;

    public SecretSteps() {
    }

    // ---- programs

    public int line(int k, int x, int y, int z) {
        return settled(sketched().addLine(k, x, y, z));
    }

    public int drops(int i) {
        return settled(sketched().dropLine(i));
    }

    public int table(int i, int v) {
        return settled(sketched().putCell(i, v));
    }

    public int start(int x, int v) {
        return settled(sketched().putStart(x, v));
    }

    public int secret(int x, int b) {
        return settled(sketched().putSecret(x, b));
    }

    // ---- runs

    public int run(int s, int what) {
        if (!program.hasSecrets(s) || !within(what, 3 + VARIABLES)) {
            return counted(BAD);
        }
        first.follow(program, s);
        return first.outcome(what);
    }

    public int sight(int s, int i) {
        if (!program.hasSecrets(s) || i < 0) {
            return counted(BAD);
        }
        first.follow(program, s);
        return first.seen(i);
    }

    public int parts(int s, int t) {
        if (!program.hasSecrets(s) || !program.hasSecrets(t)) {
            return counted(BAD);
        }
        first.follow(program, s);
        second.follow(program, t);
        return first.partsFrom(second);
    }

    public int leak() {
        return surveyNow().other;
    }

    public int rows() {
        return surveyNow().unlike;
    }

    // ---- what lines tell

    public int ahead(int i, int x, int what) {
        if (!within(i, program.count + 1) || !within(x, VARIABLES) || !within(what, 2)) {
            return counted(BAD);
        }
        Flow lines = flowNow();
        if (!lines.comesTo(i)) {
            return counted(NO);
        }
        return what == 0 ? lines.taintOf(i, x) : lines.knownOf(i, x);
    }

    public int reached(int i) {
        if (!within(i, program.count + 1)) {
            return counted(BAD);
        }
        return flowNow().comesTo(i) ? 1 : 0;
    }

    public int alarm(int i) {
        if (i < 0) {
            return counted(BAD);
        }
        return flowNow().alarmAt(program, i);
    }

    public int accepted() {
        return flowNow().accepts(program);
    }

    // ---- what is told

    public int of(int i, int what) {
        if (!within(i, program.count) || !within(what, PARTS)) {
            return counted(BAD);
        }
        return program.partOf(i, what);
    }

    public int told(int what) {
        if (!within(what, 2 + VARIABLES + NUMBERS)) {
            return counted(BAD);
        }
        return program.fact(what);
    }

    // ---- texts

    public int type(int c) {
        if (!within(c, 128)) {
            return counted(BAD);
        }
        int bytes = text.append(c);
        return bytes < 0 ? counted(bytes) : bytes;
    }

    public int clear() {
        return text.empty();
    }

    public int does() {
        int fault = text.read();
        if (fault != NONE) {
            return -10 - fault;
        }
        sketch.copyFrom(program);
        for (int order = 0; order < text.orders; order++) {
            if (text.giveOrder(order, sketch) < 0) {
                return -1000 - order;
            }
        }
        adoptSketch();
        return text.orders;
    }

    public int back() {
        if (history.size == 0) {
            return counted(NO);
        }
        history.restore(program);
        forget();
        return history.size;
    }

    public int refused(int what) {
        if (!within(what, 5)) {
            return counted(BAD);
        }
        return tally(what);
    }

    public long digest() {
        long h = 1857;
        for (int what = 0; what < 5; what++) {
            h = 31 * h + tally(what);
        }
        h = program.mixInto(h);
        Flow lines = flowNow();
        h = lines.mixInto(h, program.count);
        h = 31 * h + lines.accepts(program);
        Survey all = surveyNow();
        h = 31 * h + all.other;
        h = 31 * h + all.unlike;
        first.follow(program, 0);
        for (int what = 0; what < 3 + VARIABLES; what++) {
            h = 31 * h + first.outcome(what);
        }
        return h;
    }

    // ---- what the calls share

    private static boolean within(int v, int end) {
        return v >= 0 && v < end;
    }

    /** What ADD, AND, XOR and DIVIDE make of two numbers, in a RUN and in what LINES tell alike. */
    private static int combined(int kind, int a, int b) {
        switch (kind) {
            case ADD:
                return (a + b) % NUMBERS;
            case AND:
                return a & b;
            case XOR:
                return a ^ b;
            default:
                return b == 0 ? NUMBERS - 1 : a / b;
        }
    }

    private Program sketched() {
        sketch.copyFrom(program);
        return sketch;
    }

    /** No call told S answers below 0 but when it is refused. */
    private int settled(int answer) {
        if (answer < 0) {
            return counted(answer);
        }
        adoptSketch();
        return answer;
    }

    private void adoptSketch() {
        history.keep(program);
        program.copyFrom(sketch);
        forget();
    }

    private void forget() {
        flowFresh = false;
        surveyFresh = false;
    }

    private int counted(int refusal) {
        if (refusal == BAD) {
            badCalls++;
        } else if (refusal == NO) {
            noCalls++;
        } else {
            fullCalls++;
        }
        return refusal;
    }

    private int tally(int what) {
        switch (what) {
            case 0:
                return badCalls;
            case 1:
                return noCalls;
            case 2:
                return fullCalls;
            case 3:
                return text.length;
            default:
                return history.size;
        }
    }

    private Flow flowNow() {
        if (!flowFresh) {
            flow.find(program);
            flowFresh = true;
        }
        return flow;
    }

    private Survey surveyNow() {
        if (!surveyFresh) {
            survey.take(program, first);
            surveyFresh = true;
        }
        return survey;
    }

    /** LINES, TABLE, STARTS and which VARIABLES are SECRET: all that a STATE holds. */
    private static final class Program {
        private final int[] lines = new int[MOST_LINES * PARTS];
        private final int[] cells = new int[NUMBERS];
        private final int[] starts = new int[VARIABLES];
        private int count;
        private int secretBits;

        Program() {
            for (int i = 0; i < NUMBERS; i++) {
                cells[i] = i;
            }
        }

        void copyFrom(Program other) {
            System.arraycopy(other.lines, 0, lines, 0, MOST_LINES * PARTS);
            System.arraycopy(other.cells, 0, cells, 0, NUMBERS);
            System.arraycopy(other.starts, 0, starts, 0, VARIABLES);
            count = other.count;
            secretBits = other.secretBits;
        }

        int addLine(int k, int x, int y, int z) {
            if (!fits(k, x, y, z)) {
                return BAD;
            }
            if (count >= MOST_LINES) {
                return FULL;
            }
            int at = count * PARTS;
            lines[at] = k;
            lines[at + 1] = x;
            lines[at + 2] = y;
            lines[at + 3] = z;
            count++;
            return count - 1;
        }

        private static boolean fits(int k, int x, int y, int z) {
            if (!within(k, PICK + 1) || !within(x, VARIABLES)) {
                return false;
            }
            return within(y, endOfY(k)) && within(z, k == PICK ? VARIABLES : 1);
        }

        private static int endOfY(int k) {
            if (k == SET) {
                return NUMBERS;
            }
            return k == JUMP ? MOST_LINES + 1 : VARIABLES;
        }

        int dropLine(int i) {
            if (!within(i, count)) {
                return BAD;
            }
            count--;
            for (int at = i * PARTS; at < count * PARTS; at++) {
                lines[at] = lines[at + PARTS];
            }
            return count;
        }

        int putCell(int i, int v) {
            if (!within(i, NUMBERS) || !within(v, NUMBERS)) {
                return BAD;
            }
            int had = cells[i];
            cells[i] = v;
            return had;
        }

        int putStart(int x, int v) {
            if (!within(x, VARIABLES) || !within(v, NUMBERS)) {
                return BAD;
            }
            int was = starts[x];
            starts[x] = v;
            return was;
        }

        int putSecret(int x, int b) {
            if (!within(x, VARIABLES) || !within(b, 2)) {
                return BAD;
            }
            int others = secretBits & ~(1 << x);
            if (b == 1 && Integer.bitCount(others) >= MOST_SECRET) {
                return FULL;
            }
            int was = (secretBits >> x) & 1;
            secretBits = others | (b << x);
            return was;
        }

        /** 16 to the power of how many are SECRET. */
        int secretsEnd() {
            return 1 << (4 * Integer.bitCount(secretBits));
        }

        boolean hasSecrets(int s) {
            return within(s, secretsEnd());
        }

        int partOf(int i, int what) {
            return lines[i * PARTS + what];
        }

        /** What the call told tells: LINES, SECRET ones, STARTS, TABLE. */
        int fact(int what) {
            if (what == 0) {
                return count;
            }
            if (what == 1) {
                return secretBits;
            }
            int at = what - 2;
            return at < VARIABLES ? starts[at] : cells[at - VARIABLES];
        }

        long mixInto(long h) {
            for (int what = 0; what < 2 + VARIABLES + NUMBERS; what++) {
                h = 31 * h + fact(what);
            }
            for (int at = 0; at < count * PARTS; at++) {
                h = 31 * h + lines[at];
            }
            return h;
        }
    }

    /** The STATES to go back to, in a ring: a new one takes the place of the oldest when all are used. */
    private static final class History {
        private final Program[] states = new Program[MOST_STATES];
        private int oldest;
        private int size;

        History() {
            for (int i = 0; i < MOST_STATES; i++) {
                states[i] = new Program();
            }
        }

        void keep(Program program) {
            copy(program, states[(oldest + size) % MOST_STATES]);
            if (size < MOST_STATES) {
                size++;
            } else {
                oldest = (oldest + 1) % MOST_STATES;
            }
        }

        void restore(Program program) {
            if (size == 0) {
                return;
            }
            size--;
            copy(states[(oldest + size) % MOST_STATES], program);
        }

        private static void copy(Program from, Program to) {
            if (from != null && to != null) {
                to.copyFrom(from);
            }
        }
    }

    /** One RUN and its SIGHTS. */
    private static final class Run {
        private final int[] values = new int[VARIABLES];
        private final int[] sights = new int[MOST_SIGHTS];
        private int seenCount;
        private int steps;
        private boolean cut;

        void follow(Program program, int secrets) {
            setOut(program, secrets);
            int next = 0;
            while (steps < MOST_STEPS && next < program.count) {
                next = doLine(program, next);
                steps++;
            }
            cut = next < program.count;
            see(600 + steps);
        }

        private void setOut(Program program, int secrets) {
            seenCount = 0;
            steps = 0;
            int rest = secrets;
            for (int x = 0; x < VARIABLES; x++) {
                if (((program.secretBits >> x) & 1) == 1) {
                    values[x] = rest % NUMBERS;
                    rest = rest / NUMBERS;
                } else {
                    values[x] = program.starts[x];
                }
            }
        }

        /** Does LINE i: the number of the LINE that is next. */
        private int doLine(Program program, int i) {
            int[] lines = program.lines;
            int at = i * PARTS;
            int kind = lines[at];
            int x = lines[at + 1];
            int y = lines[at + 2];
            switch (kind) {
                case SET:
                    values[x] = y;
                    break;
                case MOVE:
                    values[x] = values[y];
                    break;
                case LOAD:
                    see(100 + values[y]);
                    values[x] = program.cells[values[y]];
                    break;
                case DIVIDE:
                    see(200 + NUMBERS * values[x] + values[y]);
                    values[x] = combined(DIVIDE, values[x], values[y]);
                    break;
                case JUMP:
                    see(500 + 2 * i + (values[x] != 0 ? 1 : 0));
                    return values[x] != 0 ? y : i + 1;
                case PICK:
                    values[x] = values[x] != 0 ? values[y] : values[lines[at + 3]];
                    break;
                default:
                    values[x] = combined(kind, values[x], values[y]);
                    break;
            }
            return i + 1;
        }

        private void see(int sign) {
            if (seenCount < MOST_SIGHTS) {
                sights[seenCount] = sign;
                seenCount++;
            }
        }

        int seen(int i) {
            return within(i, seenCount) ? sights[i] : NONE;
        }

        int outcome(int what) {
            switch (what) {
                case 0:
                    return steps;
                case 1:
                    return cut ? 1 : 0;
                case 2:
                    return seenCount;
                default:
                    return values[what - 3];
            }
        }

        /** No SIGHT is NONE, so one that is missing is unlike each that is there. */
        int partsFrom(Run other) {
            int most = Math.max(seenCount, other.seenCount);
            for (int i = 0; i < most; i++) {
                if (seen(i) != other.seen(i)) {
                    return i;
                }
            }
            return NONE;
        }
    }

    /** The RUNS by all SECRETS: how many unlike rows of SIGHTS they have, and the OTHER. */
    private static final class Survey {
        /** A SIGHT is below 1024 and never 0, so six go into a long, and 0 tells that there is none. */
        private static final int SIGHTS_IN_LONG = 6;
        private static final int BITS = 10;
        private static final int WIDTH = (MOST_SIGHTS + SIGHTS_IN_LONG - 1) / SIGHTS_IN_LONG;

        private final long[] packed = new long[MOST_SECRETS * WIDTH];
        private int unlike;
        private int other;

        void take(Program program, Run run) {
            unlike = 0;
            other = NONE;
            int end = Math.min(program.secretsEnd(), MOST_SECRETS);
            for (int s = 0; s < end; s++) {
                run.follow(program, s);
                pack(run, unlike);
                if (isNew(unlike)) {
                    // The row of SECRETS 0 is the first one, so the second parts from it and is the least that does.
                    if (unlike == 1) {
                        other = s;
                    }
                    unlike++;
                }
            }
        }

        private void pack(Run run, int row) {
            int i = 0;
            for (int at = row * WIDTH; at < (row + 1) * WIDTH; at++) {
                long signs = 0;
                for (int end = i + SIGHTS_IN_LONG; i < end; i++) {
                    signs = signs << BITS | (i < run.seenCount ? run.sights[i] : 0);
                }
                packed[at] = signs;
            }
        }

        private boolean isNew(int row) {
            for (int earlier = 0; earlier < row; earlier++) {
                if (alike(earlier, row)) {
                    return false;
                }
            }
            return true;
        }

        private boolean alike(int a, int b) {
            for (int at = 0; at < WIDTH; at++) {
                if (packed[a * WIDTH + at] != packed[b * WIDTH + at]) {
                    return false;
                }
            }
            return true;
        }
    }

    /** What the LINES tell: ahead of each LINE and of the end, what is TAINTED and what is KNOWN. */
    private static final class Flow {
        private static final int PLACES = MOST_LINES + 1;
        /** Each round but the last makes a place come to, a VARIABLE TAINTED or one not KNOWN, and none of it goes back. */
        private static final int MOST_ROUNDS = PLACES * (1 + 2 * VARIABLES) + 1;

        private final boolean[] come = new boolean[PLACES];
        private final int[] taints = new int[PLACES];
        private final int[] knowns = new int[PLACES * VARIABLES];
        /** What is so behind the LINE that is looked at. */
        private final int[] outKnowns = new int[VARIABLES];
        private int outTaints;
        private boolean changed;

        void find(Program program) {
            setOut(program.secretBits);
            for (int round = 0; changed && round < MOST_ROUNDS; round++) {
                changed = false;
                for (int i = 0; i < program.count; i++) {
                    if (come[i]) {
                        pass(program, i);
                    }
                }
            }
        }

        /** Ahead of LINE 0 the SECRET ones are TAINTED and nothing is KNOWN; nothing else is come to yet. */
        private void setOut(int secretBits) {
            for (int i = 0; i < PLACES; i++) {
                come[i] = i == 0;
            }
            for (int x = 0; x < VARIABLES; x++) {
                knowns[x] = NONE;
            }
            taints[0] = secretBits;
            changed = true;
        }

        private void pass(Program program, int i) {
            System.arraycopy(knowns, i * VARIABLES, outKnowns, 0, VARIABLES);
            outTaints = taints[i];
            int kind = program.partOf(i, 0);
            int x = program.partOf(i, 1);
            int y = program.partOf(i, 2);
            if (kind == JUMP) {
                passJump(outKnowns[x], i + 1, Math.min(y, program.count));
                return;
            }
            change(program, kind, x, y, program.partOf(i, 3));
            join(i + 1);
        }

        private void passJump(int known, int next, int target) {
            if (known != 0) {
                join(target);
            }
            if (known == NONE || known == 0) {
                join(next);
            }
        }

        private void change(Program program, int kind, int x, int y, int z) {
            switch (kind) {
                case SET:
                    become(x, false, y);
                    break;
                case MOVE:
                    become(x, tainted(y), outKnowns[y]);
                    break;
                case LOAD:
                    become(x, tainted(y), outKnowns[y] == NONE ? NONE : program.cells[outKnowns[y]]);
                    break;
                case PICK:
                    pick(x, y, z);
                    break;
                default:
                    combine(kind, x, y);
                    break;
            }
        }

        private void combine(int kind, int x, int y) {
            int a = outKnowns[x];
            int b = outKnowns[y];
            if (kind == XOR && x == y || kind == AND && (a == 0 || b == 0)) {
                become(x, false, 0);
                return;
            }
            boolean bothKnown = a != NONE && b != NONE;
            become(x, tainted(x) || tainted(y), bothKnown ? combined(kind, a, b) : NONE);
        }

        private void pick(int x, int y, int z) {
            int known = outKnowns[x];
            if (known != NONE) {
                int picked = known != 0 ? y : z;
                become(x, tainted(picked), outKnowns[picked]);
            } else if (outKnowns[y] != NONE && outKnowns[y] == outKnowns[z]) {
                become(x, false, outKnowns[y]);
            } else {
                become(x, tainted(x) || tainted(y) || tainted(z), NONE);
            }
        }

        private boolean tainted(int x) {
            return ((outTaints >> x) & 1) == 1;
        }

        private void become(int x, boolean taint, int known) {
            int others = outTaints & ~(1 << x);
            outTaints = taint ? others | (1 << x) : others;
            outKnowns[x] = known;
        }

        private void join(int to) {
            int at = to * VARIABLES;
            if (!come[to]) {
                come[to] = true;
                taints[to] = outTaints;
                System.arraycopy(outKnowns, 0, knowns, at, VARIABLES);
                changed = true;
                return;
            }
            if ((taints[to] | outTaints) != taints[to]) {
                taints[to] |= outTaints;
                changed = true;
            }
            for (int x = 0; x < VARIABLES; x++) {
                if (knowns[at + x] != NONE && knowns[at + x] != outKnowns[x]) {
                    knowns[at + x] = NONE;
                    changed = true;
                }
            }
        }

        boolean comesTo(int i) {
            return come[i];
        }

        int taintOf(int i, int x) {
            return (taints[i] >> x) & 1;
        }

        int knownOf(int i, int x) {
            return knowns[i * VARIABLES + x];
        }

        /** The LINE that gives the n-th ALARM, or NONE. */
        int alarmAt(Program program, int n) {
            int left = n;
            for (int i = 0; i < program.count; i++) {
                if (givesAlarm(program, i)) {
                    if (left == 0) {
                        return i;
                    }
                    left--;
                }
            }
            return NONE;
        }

        int accepts(Program program) {
            return alarmAt(program, 0) == NONE ? 1 : 0;
        }

        private boolean givesAlarm(Program program, int i) {
            if (!come[i]) {
                return false;
            }
            int taintX = taintOf(i, program.partOf(i, 1));
            switch (program.partOf(i, 0)) {
                case LOAD:
                    return taintOf(i, program.partOf(i, 2)) == 1;
                case DIVIDE:
                    return taintX == 1 || taintOf(i, program.partOf(i, 2)) == 1;
                case JUMP:
                    return taintX == 1;
                default:
                    return false;
            }
        }

        long mixInto(long h, int end) {
            for (int i = 0; i <= end; i++) {
                if (come[i]) {
                    h = 31 * h + i;
                    for (int x = 0; x < VARIABLES; x++) {
                        h = 31 * h + taintOf(i, x);
                        h = 31 * h + knownOf(i, x);
                    }
                }
            }
            return h;
        }
    }

    /** THE TEXT, and the ORDERS that were last read from it. */
    private static final class Text {
        /** The shortest ORDER, such as d0; , has 3 bytes. */
        private static final int MOST_ORDERS = MOST_BYTES / 3;
        private static final int MOST_ARGUMENTS = 4;

        private final int[] bytes = new int[MOST_BYTES];
        private int length;
        private final int[] letters = new int[MOST_ORDERS];
        private final int[] arguments = new int[MOST_ORDERS * MOST_ARGUMENTS];
        /** ORDERS that are ended. */
        private int orders;
        /** Whether an ORDER is begun; its numbers as yet; the figures of the number that may still go on. */
        private boolean open;
        private int numbers;
        private int figures;

        int append(int c) {
            if (length >= MOST_BYTES) {
                return FULL;
            }
            bytes[length] = c;
            length++;
            return length;
        }

        int empty() {
            int had = length;
            length = 0;
            return had;
        }

        /** Reads THE TEXT whole: its FAULT, or NONE. */
        int read() {
            orders = 0;
            open = false;
            for (int i = 0; i < length; i++) {
                if (!takes(bytes[i])) {
                    return i;
                }
            }
            return open || orders == 0 ? length : NONE;
        }

        /** Whether byte c can stand behind what has been read. */
        private boolean takes(int c) {
            if (c == ' ') {
                figures = 0;
                return true;
            }
            if (!open) {
                return begins(c);
            }
            if (c == ';') {
                return ends();
            }
            return c >= '0' && c <= '9' && takesFigure(c - '0');
        }

        private boolean begins(int c) {
            if (numbersOf(c) == 0 || orders >= MOST_ORDERS) {
                return false;
            }
            letters[orders] = c;
            open = true;
            numbers = 0;
            figures = 0;
            return true;
        }

        private boolean ends() {
            if (numbers != numbersOf(letters[orders])) {
                return false;
            }
            orders++;
            open = false;
            return true;
        }

        private boolean takesFigure(int figure) {
            int at = orders * MOST_ARGUMENTS + numbers;
            if (figures == 1) {
                arguments[at - 1] = 10 * arguments[at - 1] + figure;
                figures = 2;
                return true;
            }
            if (figures == 2 || numbers == numbersOf(letters[orders])) {
                return false;
            }
            arguments[at] = figure;
            numbers++;
            figures = 1;
            return true;
        }

        /** How many numbers an ORDER has that begins with c; 0: none begins so. */
        private static int numbersOf(int c) {
            switch (c) {
                case 'l':
                    return 4;
                case 'd':
                    return 1;
                case 't':
                case 'v':
                case 'p':
                    return 2;
                default:
                    return 0;
            }
        }

        /** Does an ORDER to a program: what its call would answer. */
        int giveOrder(int order, Program program) {
            int at = order * MOST_ARGUMENTS;
            int a = arguments[at];
            int b = arguments[at + 1];
            switch (letters[order]) {
                case 'l':
                    return program.addLine(a, b, arguments[at + 2], arguments[at + 3]);
                case 'd':
                    return program.dropLine(a);
                case 't':
                    return program.putCell(a, b);
                case 'v':
                    return program.putStart(a, b);
                default:
                    return program.putSecret(a, b);
            }
        }
    }
}
