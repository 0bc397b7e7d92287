import java.lang.management.ManagementFactory;
import java.lang.reflect.Field;
import java.lang.reflect.InvocationTargetException;
import java.lang.reflect.Method;
import java.lang.reflect.Modifier;
import java.nio.file.Files;
import java.nio.file.Path;
import java.util.ArrayList;
import java.util.Arrays;
import java.util.Comparator;
import java.util.List;
import java.util.Random;
import java.util.Set;
import java.util.TreeSet;
import java.util.regex.Matcher;
import java.util.regex.Pattern;

/** What of LANGUAGE.md can be looked at by a program: the face, words that may not stand, and that calls make no objects; that none throws. */
public final class RulesTest {
    private static final Set<String> FACE = new TreeSet<>(List.of(
        "int line(int,int,int,int)", "int drops(int)", "int table(int,int)", "int start(int,int)", "int secret(int,int)",
        "int run(int,int)", "int sight(int,int)", "int parts(int,int)", "int leak()", "int rows()", "int ahead(int,int,int)",
        "int reached(int)", "int alarm(int)", "int accepted()", "int of(int,int)", "int told(int)", "int type(int)", "int clear()",
        "int does()", "int back()", "int refused(int)", "long digest()"));
    private static final Set<String> CONSTANTS = new TreeSet<>(List.of("NONE", "BAD", "NO", "FULL"));
    private static final String[] FORBIDDEN = {
        "\\bthrow\\b", "\\btry\\b", "\\bcatch\\b", "\\bsynchronized\\b", "\\bassert\\b", "\\bimport\\b", "\\bpackage\\b", "->", "::",
        "\\bRandom\\b", "\\bThread\\b", "\\bSystem\\.(?!arraycopy)", "Exact\\b", "\\bstatic\\s*\\{", "\\bObject\\b", "\\bvar\\b", "[^\\x00-\\x7f]"};

    private static int wrong = 0;

    private static void holds(boolean so, String what) {
        if (!so) {
            wrong++;
            System.out.println("does not hold: " + what);
        }
    }

    private static String signature(Method m) {
        List<String> types = new ArrayList<>();
        for (Class<?> c : m.getParameterTypes()) {
            types.add(c.getSimpleName());
        }
        return m.getReturnType().getSimpleName() + " " + m.getName() + "(" + String.join(",", types) + ")";
    }

    private static void face() {
        Class<?> c = SecretSteps.class;
        holds(Modifier.isFinal(c.getModifiers()) && Modifier.isPublic(c.getModifiers()), "the class is public and final");
        holds(c.getDeclaredConstructors().length == 1 && c.getConstructors().length == 1, "one constructor, public");
        Set<String> open = new TreeSet<>();
        Set<String> openNames = new TreeSet<>();
        for (Method m : c.getDeclaredMethods()) {
            if (!Modifier.isPrivate(m.getModifiers())) {
                holds(Modifier.isPublic(m.getModifiers()) && !Modifier.isStatic(m.getModifiers()), m + " is public, not static");
                open.add(signature(m));
                openNames.add(m.getName());
            }
        }
        holds(open.equals(FACE), "the methods are those of the document: " + open);
        for (Method m : c.getDeclaredMethods()) {
            holds(!Modifier.isPrivate(m.getModifiers()) || !openNames.contains(m.getName()), m + " bears the name of a public one");
        }
        Set<String> constants = new TreeSet<>();
        for (Field f : c.getDeclaredFields()) {
            int m = f.getModifiers();
            if (!Modifier.isPrivate(m)) {
                holds(Modifier.isPublic(m) && Modifier.isStatic(m) && Modifier.isFinal(m) && f.getType() == int.class, f + " is a constant");
                constants.add(f.getName());
            }
        }
        holds(constants.equals(CONSTANTS), "the constants are those of the document: " + constants);
        classesInside(c, openNames);
    }

    private static void classesInside(Class<?> c, Set<String> openNames) {
        holds(c.getDeclaredClasses().length < 12, "at most some twelve classes");
        noStaticState(c);
        for (Class<?> inside : c.getDeclaredClasses()) {
            holds(Modifier.isStatic(inside.getModifiers()), inside + " is static");
            noStaticState(inside);
            for (Method m : inside.getDeclaredMethods()) {
                holds(!openNames.contains(m.getName()), m + " bears the name of a public one");
                holds(m.getParameterCount() <= 7, m + " takes at most seven parameters");
            }
        }
    }

    private static void noStaticState(Class<?> c) {
        int own = 0;
        for (Field f : c.getDeclaredFields()) {
            if (Modifier.isStatic(f.getModifiers())) {
                holds(Modifier.isFinal(f.getModifiers()), f + " is final");
            } else {
                own++;
            }
        }
        holds(own <= 20, c + " has at most some twenty fields");
    }

    private static void words() throws Exception {
        String source = Files.readString(Path.of("src/main/java/SecretSteps.java"));
        String code = source.replaceAll("(?s)/\\*.*?\\*/", "").replaceAll("//[^\n]*", "");
        for (String word : FORBIDDEN) {
            Matcher m = Pattern.compile(word).matcher(code);
            holds(!m.find(), "no " + word + " in the program");
        }
        int longest = 0;
        int since = 0;
        String[] lines = code.split("\n");
        for (int i = 0; i < lines.length; i++) {
            if (lines[i].matches("( {4}| {8})(public|private|static|int|long|void|boolean|[A-Z]\\w*).*\\) \\{")) {
                since = i;
            } else if (lines[i].matches("( {4}| {8})\\}")) {
                longest = Math.max(longest, i - since + 1);
            }
        }
        holds(longest > 10 && longest <= 60, "methods have at most some sixty lines: " + longest);
    }

    private static void useAll(SecretSteps x) {
        String text = "p0 1;p1 1;l5 2 0 0;l6 3 1 0;v4 3;t2 9;";
        for (int i = 0; i < text.length(); i++) {
            x.type(text.charAt(i));
        }
        for (int n = 0; n < 30; n++) {
            x.does();
            x.line(7, 4, 0, 0);
            x.drops(1);
            x.start(4, n % 16);
            x.secret(n % 6, n % 2);
            x.table(n % 16, 3);
            x.ahead(0, 0, 0);
            x.alarm(0);
            x.parts(0, 1);
            x.digest();
            x.back();
        }
    }

    /** All calls of one run live in one room, so only the constructor may make objects. */
    private static void room() {
        if (!(ManagementFactory.getThreadMXBean() instanceof com.sun.management.ThreadMXBean threads)) {
            return;
        }
        useAll(new SecretSteps());
        long id = Thread.currentThread().getId();
        SecretSteps x = new SecretSteps();
        long before = threads.getThreadAllocatedBytes(id);
        useAll(x);
        long made = threads.getThreadAllocatedBytes(id) - before;
        holds(made < 4096, "calls make no objects: bytes " + made);
        before = threads.getThreadAllocatedBytes(id);
        for (int i = 0; i < 100; i++) {
            new SecretSteps();
        }
        made = (threads.getThreadAllocatedBytes(id) - before) / 100;
        holds(made < 40000, "an object is small: bytes " + made);
    }

    private static final int[] WILD = {Integer.MIN_VALUE, -16, -1, 20, 21, 32, 127, 128, 255, 256, 1 << 16, Integer.MAX_VALUE};

    /** Rule 7, as far as drawn calls can tell: none throws, far behind the 512th call, too. */
    private static void noCallThrows() throws Exception {
        Random random = new Random(7);
        List<Method> calls = new ArrayList<>();
        for (Method m : SecretSteps.class.getDeclaredMethods()) {
            if (Modifier.isPublic(m.getModifiers())) {
                calls.add(m);
            }
        }
        calls.sort(Comparator.comparing(Method::getName));
        SecretSteps x = new SecretSteps();
        for (int n = 0; n < 30000; n++) {
            Method m = calls.get(random.nextInt(calls.size()));
            Object[] numbers = new Object[m.getParameterCount()];
            for (int i = 0; i < numbers.length; i++) {
                numbers[i] = random.nextInt(8) == 0 ? WILD[random.nextInt(WILD.length)] : random.nextInt(random.nextBoolean() ? 2 : 7);
            }
            try {
                m.invoke(x, numbers);
            } catch (InvocationTargetException thrown) {
                holds(false, "call " + n + ", " + signature(m) + " does not throw: " + Arrays.toString(numbers) + " " + thrown.getCause());
                return;
            }
        }
    }

    public static void main(String[] args) throws Exception {
        face();
        words();
        room();
        noCallThrows();
        System.out.println("RulesTest: " + wrong + " wrong");
        if (wrong != 0) {
            System.exit(1);
        }
    }
}
