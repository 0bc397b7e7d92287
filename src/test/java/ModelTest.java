import java.util.ArrayDeque;
import java.util.ArrayList;
import java.util.Arrays;
import java.util.Deque;
import java.util.HashSet;
import java.util.List;
import java.util.Random;
import java.util.Set;
import java.util.regex.Matcher;
import java.util.regex.Pattern;

/**
 * Long runs of calls, drawn by fixed seeds, on the program and on a second one that is written after the document in
 * another way: runs kept as lists, what lines tell asked anew from nothing each round, the text by a pattern.
 */
public final class ModelTest {
    private static final int RUNS = 300;
    private static final int CALLS = 512;
    private static final int NONE = -1, BAD = -2, NO = -3, FULL = -4;

    /** The plain second program. */
    private static final class Model {
        private static final class State {
            List<int[]> lines = new ArrayList<>();
            int[] table = new int[16];
            int[] start = new int[6];
            boolean[] secret = new boolean[6];

            State copy() {
                State s = new State();
                s.lines = new ArrayList<>(lines);
                s.table = table.clone();
                s.start = start.clone();
                s.secret = secret.clone();
                return s;
            }

            int secretCount() {
                int n = 0;
                for (boolean b : secret) {
                    n += b ? 1 : 0;
                }
                return n;
            }
        }

        private static final class Ended {
            List<Integer> sights = new ArrayList<>();
            int[] values;
            int steps;
            boolean cut;
        }

        /** What is so of one VARIABLE: known is null, if by no number. */
        private record Fact(boolean tainted, Integer known) {
        }

        private static final String NUMBER = "[0-9]{1,2}";
        private static final String TWO = NUMBER + " +" + NUMBER;
        private static final Pattern ORDERS = Pattern.compile(
            "( *(d *" + NUMBER + "|[tvp] *" + TWO + "|l *" + TWO + " +" + TWO + ") *;)+ *");

        private State now = new State();
        private final Deque<State> older = new ArrayDeque<>();
        private String text = "";
        private final int[] refusals = new int[3];

        Model() {
            for (int i = 0; i < 16; i++) {
                now.table[i] = i;
            }
        }

        private static boolean in(int v, int least, int most) {
            return least <= v && v <= most;
        }

        private int refuse(int r) {
            refusals[r == BAD ? 0 : r == NO ? 1 : 2]++;
            return r;
        }

        /** One of the calls told S, by its letter, on s: its answer, with s changed only if that is not below 0. */
        private static int change(State s, char letter, int... a) {
            switch (letter) {
                case 'l': {
                    boolean fine = in(a[0], 0, 8) && in(a[1], 0, 5);
                    int mostY = a[0] == 0 ? 15 : a[0] == 7 ? 20 : 5;
                    int mostZ = a[0] == 8 ? 5 : 0;
                    if (!fine || !in(a[2], 0, mostY) || !in(a[3], 0, mostZ)) {
                        return BAD;
                    }
                    if (s.lines.size() == 20) {
                        return FULL;
                    }
                    s.lines.add(a.clone());
                    return s.lines.size() - 1;
                }
                case 'd':
                    if (!in(a[0], 0, s.lines.size() - 1)) {
                        return BAD;
                    }
                    s.lines.remove(a[0]);
                    return s.lines.size();
                case 't': {
                    if (!in(a[0], 0, 15) || !in(a[1], 0, 15)) {
                        return BAD;
                    }
                    int had = s.table[a[0]];
                    s.table[a[0]] = a[1];
                    return had;
                }
                case 'v': {
                    if (!in(a[0], 0, 5) || !in(a[1], 0, 15)) {
                        return BAD;
                    }
                    int was = s.start[a[0]];
                    s.start[a[0]] = a[1];
                    return was;
                }
                default: {
                    if (!in(a[0], 0, 5) || !in(a[1], 0, 1)) {
                        return BAD;
                    }
                    boolean was = s.secret[a[0]];
                    if (a[1] == 1 && !was && s.secretCount() == 2) {
                        return FULL;
                    }
                    s.secret[a[0]] = a[1] == 1;
                    return was ? 1 : 0;
                }
            }
        }

        int call(char letter, int... a) {
            State before = now.copy();
            int answer = change(now, letter, a);
            if (answer < 0) {
                return refuse(answer);
            }
            leave(before);
            return answer;
        }

        private void leave(State s) {
            older.addLast(s);
            if (older.size() > 5) {
                older.removeFirst();
            }
        }

        private static int divided(int a, int b) {
            return b == 0 ? 15 : a / b;
        }

        private Ended runBy(int s) {
            Ended e = new Ended();
            int[] v = now.start.clone();
            int bit = 0;
            for (int x = 0; x < 6; x++) {
                if (now.secret[x]) {
                    v[x] = s >> bit & 15;
                    bit += 4;
                }
            }
            int at = 0;
            for (; e.steps < 60 && at < now.lines.size(); e.steps++) {
                int[] l = now.lines.get(at);
                int x = l[1];
                int y = l[2];
                int next = at + 1;
                if (l[0] == 0) {
                    v[x] = y;
                } else if (l[0] == 1) {
                    v[x] = v[y];
                } else if (l[0] == 2) {
                    v[x] = v[x] + v[y] & 15;
                } else if (l[0] == 3) {
                    v[x] &= v[y];
                } else if (l[0] == 4) {
                    v[x] ^= v[y];
                } else if (l[0] == 5) {
                    e.sights.add(100 + v[y]);
                    v[x] = now.table[v[y]];
                } else if (l[0] == 6) {
                    e.sights.add(200 + 16 * v[x] + v[y]);
                    v[x] = divided(v[x], v[y]);
                } else if (l[0] == 7) {
                    e.sights.add(500 + 2 * at + (v[x] == 0 ? 0 : 1));
                    next = v[x] == 0 ? next : y;
                } else {
                    v[x] = v[x] == 0 ? v[l[3]] : v[y];
                }
                at = next;
            }
            e.cut = e.steps == 60 && at < now.lines.size();
            e.sights.add(600 + e.steps);
            e.values = v;
            return e;
        }

        private boolean secrets(int s) {
            return in(s, 0, (int) Math.pow(16, now.secretCount()) - 1);
        }

        int run(int s, int what) {
            if (!secrets(s) || !in(what, 0, 8)) {
                return refuse(BAD);
            }
            Ended e = runBy(s);
            return what == 0 ? e.steps : what == 1 ? (e.cut ? 1 : 0) : what == 2 ? e.sights.size() : e.values[what - 3];
        }

        int sight(int s, int i) {
            if (!secrets(s) || i < 0) {
                return refuse(BAD);
            }
            List<Integer> sights = runBy(s).sights;
            return i < sights.size() ? sights.get(i) : NONE;
        }

        private int parted(int s, int t) {
            List<Integer> a = runBy(s).sights;
            List<Integer> b = runBy(t).sights;
            for (int i = 0; i < a.size() || i < b.size(); i++) {
                if (i >= a.size() || i >= b.size() || !a.get(i).equals(b.get(i))) {
                    return i;
                }
            }
            return NONE;
        }

        int parts(int s, int t) {
            return secrets(s) && secrets(t) ? parted(s, t) : refuse(BAD);
        }

        int leak() {
            for (int s = 0; secrets(s); s++) {
                if (parted(0, s) != NONE) {
                    return s;
                }
            }
            return NONE;
        }

        int rows() {
            Set<List<Integer>> unlike = new HashSet<>();
            for (int s = 0; secrets(s); s++) {
                unlike.add(runBy(s).sights);
            }
            return unlike.size();
        }

        // ---- what lines tell: each place's facts from those of all that come to it, asked till nothing becomes other

        private List<Fact> entry() {
            List<Fact> facts = new ArrayList<>();
            for (int x = 0; x < 6; x++) {
                facts.add(new Fact(now.secret[x], null));
            }
            return facts;
        }

        /** Facts ahead of each place; null: it is not come to. */
        private List<List<Fact>> places() {
            int end = now.lines.size();
            List<List<Fact>> places = new ArrayList<>();
            for (int i = 0; i <= end; i++) {
                places.add(null);
            }
            while (true) {
                List<List<Fact>> then = new ArrayList<>();
                for (int to = 0; to <= end; to++) {
                    List<Fact> met = to == 0 ? entry() : null;
                    for (int from = 0; from < end; from++) {
                        if (places.get(from) != null && leads(from, to, places.get(from))) {
                            met = meet(met, behind(now.lines.get(from), places.get(from)));
                        }
                    }
                    then.add(met);
                }
                if (then.equals(places)) {
                    return places;
                }
                places = then;
            }
        }

        private boolean leads(int from, int to, List<Fact> facts) {
            int[] l = now.lines.get(from);
            if (l[0] != 7) {
                return to == from + 1;
            }
            Integer known = facts.get(l[1]).known;
            boolean jumps = known == null || known != 0;
            boolean stays = known == null || known == 0;
            return stays && to == from + 1 || jumps && to == Math.min(l[2], now.lines.size());
        }

        private static List<Fact> meet(List<Fact> a, List<Fact> b) {
            if (a == null) {
                return b;
            }
            List<Fact> both = new ArrayList<>();
            for (int x = 0; x < 6; x++) {
                Integer known = a.get(x).known != null && a.get(x).known.equals(b.get(x).known) ? a.get(x).known : null;
                both.add(new Fact(a.get(x).tainted || b.get(x).tainted, known));
            }
            return both;
        }

        private List<Fact> behind(int[] l, List<Fact> facts) {
            List<Fact> then = new ArrayList<>(facts);
            if (l[0] != 7) {
                then.set(l[1], made(l, facts));
            }
            return then;
        }

        private Fact made(int[] l, List<Fact> facts) {
            if (l[0] == 0) {
                return new Fact(false, l[2]);
            }
            Fact x = facts.get(l[1]);
            Fact y = facts.get(l[2]);
            Fact z = facts.get(l[3]);
            boolean both = x.known != null && y.known != null;
            boolean either = x.tainted || y.tainted;
            switch (l[0]) {
                case 1:
                    return y;
                case 2:
                    return new Fact(either, both ? (x.known + y.known) % 16 : null);
                case 3: {
                    boolean zero = x.known != null && x.known == 0 || y.known != null && y.known == 0;
                    return zero ? new Fact(false, 0) : new Fact(either, both ? x.known & y.known : null);
                }
                case 4:
                    return l[1] == l[2] ? new Fact(false, 0) : new Fact(either, both ? x.known ^ y.known : null);
                case 5:
                    return new Fact(y.tainted, y.known == null ? null : (Integer) now.table[y.known]);
                case 6:
                    return new Fact(either, both ? (Integer) divided(x.known, y.known) : null);
                default:
                    if (x.known != null) {
                        return x.known != 0 ? y : z;
                    }
                    if (y.known != null && y.known.equals(z.known)) {
                        return new Fact(false, y.known);
                    }
                    return new Fact(either || z.tainted, null);
            }
        }

        int ahead(int i, int x, int what) {
            if (!in(i, 0, now.lines.size()) || !in(x, 0, 5) || !in(what, 0, 1)) {
                return refuse(BAD);
            }
            List<Fact> facts = places().get(i);
            if (facts == null) {
                return refuse(NO);
            }
            return told(facts.get(x), what);
        }

        private static int told(Fact f, int what) {
            return what == 0 ? (f.tainted ? 1 : 0) : f.known == null ? NONE : f.known;
        }

        int reached(int i) {
            return !in(i, 0, now.lines.size()) ? refuse(BAD) : places().get(i) == null ? 0 : 1;
        }

        private List<Integer> alarms() {
            List<Integer> found = new ArrayList<>();
            List<List<Fact>> places = places();
            for (int i = 0; i < now.lines.size(); i++) {
                int[] l = now.lines.get(i);
                List<Fact> f = places.get(i);
                boolean ofX = f != null && f.get(l[1]).tainted && (l[0] == 6 || l[0] == 7);
                boolean ofY = f != null && (l[0] == 5 || l[0] == 6) && f.get(l[2]).tainted;
                if (ofX || ofY) {
                    found.add(i);
                }
            }
            return found;
        }

        int alarm(int i) {
            List<Integer> found = alarms();
            return i < 0 ? refuse(BAD) : i < found.size() ? found.get(i) : NONE;
        }

        int accepted() {
            return alarms().isEmpty() ? 1 : 0;
        }

        int of(int i, int what) {
            return in(i, 0, now.lines.size() - 1) && in(what, 0, 3) ? now.lines.get(i)[what] : refuse(BAD);
        }

        private int[] all() {
            int[] a = new int[24];
            a[0] = now.lines.size();
            for (int x = 0; x < 6; x++) {
                a[1] += now.secret[x] ? 1 << x : 0;
                a[2 + x] = now.start[x];
            }
            System.arraycopy(now.table, 0, a, 8, 16);
            return a;
        }

        int told(int what) {
            return in(what, 0, 23) ? all()[what] : refuse(BAD);
        }

        int type(int c) {
            if (!in(c, 0, 127)) {
                return refuse(BAD);
            }
            if (text.length() == 120) {
                return refuse(FULL);
            }
            text += (char) c;
            return text.length();
        }

        int clear() {
            int had = text.length();
            text = "";
            return had;
        }

        private int fault() {
            for (int i = 1; i <= text.length(); i++) {
                Matcher m = ORDERS.matcher(text.substring(0, i));
                if (!m.matches() && !m.hitEnd()) {
                    return i - 1;
                }
            }
            return ORDERS.matcher(text).matches() ? NONE : text.length();
        }

        int does() {
            int fault = fault();
            if (fault != NONE) {
                return -10 - fault;
            }
            State before = now.copy();
            String[] orders = text.trim().split(";");
            for (int n = 0; n < orders.length; n++) {
                String order = orders[n].trim();
                String[] numbers = order.substring(1).trim().split(" +");
                int[] a = Arrays.stream(numbers).mapToInt(Integer::parseInt).toArray();
                if (change(now, order.charAt(0), a) < 0) {
                    now = before;
                    return -1000 - n;
                }
            }
            leave(before);
            return orders.length;
        }

        int back() {
            if (older.isEmpty()) {
                return refuse(NO);
            }
            now = older.removeLast();
            return older.size();
        }

        int refused(int what) {
            if (!in(what, 0, 4)) {
                return refuse(BAD);
            }
            return what < 3 ? refusals[what] : what == 3 ? text.length() : older.size();
        }

        long digest() {
            List<Integer> all = new ArrayList<>();
            for (int what = 0; what < 5; what++) {
                all.add(refused(what));
            }
            for (int v : all()) {
                all.add(v);
            }
            for (int[] l : now.lines) {
                for (int v : l) {
                    all.add(v);
                }
            }
            List<List<Fact>> places = places();
            for (int i = 0; i < places.size(); i++) {
                if (places.get(i) != null) {
                    all.add(i);
                    for (Fact f : places.get(i)) {
                        all.add(told(f, 0));
                        all.add(told(f, 1));
                    }
                }
            }
            all.addAll(List.of(accepted(), leak(), rows()));
            for (int what = 0; what < 9; what++) {
                all.add(run(0, what));
            }
            long h = 1857;
            for (int v : all) {
                h = h * 31 + v;
            }
            return h;
        }
    }

    private static final int[] FAR = {-1, -2, Integer.MIN_VALUE, Integer.MAX_VALUE, 16, 21, 32, 64, 256, 1 << 30};

    private final Random random;
    private final SecretSteps real = new SecretSteps();
    private final Model model = new Model();
    private final List<String> calls = new ArrayList<>();
    private boolean right = true;

    private ModelTest(long seed) {
        random = new Random(seed);
    }

    /** Mostly 0 up to end, at times end itself or something far. */
    private int below(int end) {
        int chance = random.nextInt(60);
        return chance == 0 ? FAR[random.nextInt(FAR.length)] : chance == 1 ? end : random.nextInt(Math.max(1, end));
    }

    private void met(String call, long got, long want) {
        calls.add(call + " = " + got);
        if (got != want && right) {
            right = false;
            System.out.println("answered otherwise: " + call + " answered " + got + ", due is " + want + " behind:");
            System.out.println("  " + String.join("; ", calls));
        }
    }

    private int[] someLine() {
        int k = below(9);
        int y = below(k == 0 ? 16 : k == 7 ? 21 : 6);
        int z = k == 8 ? below(6) : random.nextInt(30) == 0 ? below(6) : 0;
        if (k == 7 && random.nextInt(3) > 0) {
            y = Math.min(20, below(model.now.lines.size() + 3));
        }
        return new int[] {k, below(6), y, z};
    }

    private int someSecrets() {
        return below(1 << 4 * model.now.secretCount());
    }

    private int somePlace(int more) {
        return below(model.now.lines.size() + more);
    }

    private void changeSomething() {
        int which = random.nextInt(12);
        if (which < 7) {
            int[] l = someLine();
            met("line" + Arrays.toString(l), real.line(l[0], l[1], l[2], l[3]), model.call('l', l));
        } else if (which == 7) {
            int i = somePlace(0);
            met("drops " + i, real.drops(i), model.call('d', i));
        } else if (which == 8) {
            int i = below(16);
            int v = below(16);
            met("table " + i + " " + v, real.table(i, v), model.call('t', i, v));
        } else if (which == 9) {
            int x = below(6);
            int v = below(16);
            met("start " + x + " " + v, real.start(x, v), model.call('v', x, v));
        } else {
            int x = below(6);
            int b = below(2);
            met("secret " + x + " " + b, real.secret(x, b), model.call('p', x, b));
        }
    }

    private void askRuns() {
        int s = someSecrets();
        int t = someSecrets();
        int what = below(9);
        int i = below(random.nextInt(3) == 0 ? 64 : 6);
        switch (random.nextInt(5)) {
            case 0:
                met("run " + s + " " + what, real.run(s, what), model.run(s, what));
                break;
            case 1:
                met("sight " + s + " " + i, real.sight(s, i), model.sight(s, i));
                break;
            case 2:
                met("parts " + s + " " + t, real.parts(s, t), model.parts(s, t));
                break;
            case 3:
                met("leak", real.leak(), model.leak());
                break;
            default:
                met("rows", real.rows(), model.rows());
                break;
        }
    }

    private void askLines() {
        int i = somePlace(1);
        int x = below(6);
        int what = below(2);
        int n = below(4);
        switch (random.nextInt(5)) {
            case 0:
            case 1:
                met("ahead " + i + " " + x + " " + what, real.ahead(i, x, what), model.ahead(i, x, what));
                break;
            case 2:
                met("reached " + i, real.reached(i), model.reached(i));
                break;
            case 3:
                met("alarm " + n, real.alarm(n), model.alarm(n));
                break;
            default:
                met("accepted", real.accepted(), model.accepted());
                break;
        }
    }

    private void askFacts() {
        int i = somePlace(0);
        int part = below(4);
        int fact = below(24);
        int count = below(5);
        switch (random.nextInt(4)) {
            case 0:
                met("of " + i + " " + part, real.of(i, part), model.of(i, part));
                break;
            case 1:
                met("told " + fact, real.told(fact), model.told(fact));
                break;
            case 2:
                met("refused " + count, real.refused(count), model.refused(count));
                break;
            default:
                met("digest", real.digest(), model.digest());
                break;
        }
    }

    private String blanks(int least) {
        return " ".repeat(least + (random.nextInt(4) == 0 ? random.nextInt(3) : 0));
    }

    private String number(int v) {
        return v >= 0 && v < 10 && random.nextInt(5) == 0 ? "0" + v : String.valueOf(v);
    }

    private String someOrder() {
        int[] a;
        char letter = "lllldtvp".charAt(random.nextInt(8));
        if (letter == 'l') {
            a = someLine();
        } else if (letter == 'd') {
            a = new int[] {somePlace(0)};
        } else {
            a = new int[] {below(letter == 't' ? 16 : 6), below(letter == 'p' ? 2 : 16)};
        }
        StringBuilder order = new StringBuilder(blanks(0)).append(letter).append(blanks(0));
        for (int n = 0; n < a.length; n++) {
            order.append(n == 0 ? "" : blanks(1)).append(number(a[n]));
        }
        return order.append(blanks(0)).append(';').append(blanks(0)).toString();
    }

    private String someText() {
        StringBuilder text = new StringBuilder();
        int orders = random.nextInt(6);
        for (int n = 0; n < orders; n++) {
            text.append(someOrder());
        }
        if (text.length() > 0 && random.nextInt(3) == 0) {
            int at = random.nextInt(text.length());
            switch (random.nextInt(4)) {
                case 0:
                    text.deleteCharAt(at);
                    break;
                case 1:
                    text.setLength(at);
                    break;
                case 2:
                    text.insert(at, "0 ;ldtvpx9".charAt(random.nextInt(10)));
                    break;
                default:
                    text.setCharAt(at, (char) random.nextInt(128));
                    break;
            }
        }
        return text.toString();
    }

    private void typeSomething() {
        if (random.nextInt(8) > 0) {
            met("clear", real.clear(), model.clear());
        }
        String text = someText();
        for (int i = 0; i < text.length(); i++) {
            int c = random.nextInt(400) == 0 ? below(128) : text.charAt(i);
            met("type " + c, real.type(c), model.type(c));
        }
        met("does", real.does(), model.does());
    }

    private boolean callAll() {
        while (calls.size() < CALLS && right) {
            int which = random.nextInt(32);
            if (which < 13) {
                changeSomething();
            } else if (which < 19) {
                askRuns();
            } else if (which < 25) {
                askLines();
            } else if (which < 28) {
                askFacts();
            } else if (which < 30) {
                met("back", real.back(), model.back());
            } else if (which < 31) {
                typeSomething();
            }
        }
        met("digest", real.digest(), model.digest());
        if (model.accepted() == 1 && (real.leak() != NONE || real.rows() != 1)) {
            right = false;
            System.out.println("accepted, but it leaks: " + String.join("; ", calls));
        }
        return right;
    }

    public static void main(String[] args) {
        int runs = args.length > 0 ? Integer.parseInt(args[0]) : RUNS;
        int wrong = 0;
        for (int seed = 0; seed < runs; seed++) {
            if (!new ModelTest(seed).callAll()) {
                System.out.println("  (seed " + seed + ")");
                wrong++;
            }
        }
        System.out.println("ModelTest: " + runs + " runs of calls, " + wrong + " wrong");
        if (wrong != 0) {
            System.exit(1);
        }
    }
}
