import java.lang.reflect.Method;
import java.nio.file.Files;
import java.nio.file.Path;
import java.util.regex.Matcher;
import java.util.regex.Pattern;

/** The examples of README.md answer what stands behind them. */
public final class ReadmeTest {
    private static final Pattern CALL = Pattern.compile("x\\.(\\w+)\\(([-0-9, ]*)\\); +// (-?\\d+): .+");
    private static final Pattern TYPED = Pattern.compile("for \\(char c : \"([^\"]*)\"\\.toCharArray\\(\\)\\) x\\.type\\(c\\);");
    private static final String NEW = "SecretSteps x = new SecretSteps();";

    private static SecretSteps x = new SecretSteps();
    private static int asked = 0;
    private static int wrong = 0;

    private static void fails(String line, String what) {
        wrong++;
        System.out.println("README.md: " + line + " " + what);
    }

    private static Number answer(String name, String numbers) throws Exception {
        String[] each = numbers.isBlank() ? new String[0] : numbers.split(", *");
        Class<?>[] types = new Class<?>[each.length];
        Object[] values = new Object[each.length];
        for (int i = 0; i < each.length; i++) {
            types[i] = int.class;
            values[i] = Integer.parseInt(each[i]);
        }
        Method call = SecretSteps.class.getMethod(name, types);
        return (Number) call.invoke(x, values);
    }

    private static void follow(String line) throws Exception {
        Matcher call = CALL.matcher(line);
        Matcher typed = TYPED.matcher(line);
        if (line.equals(NEW)) {
            x = new SecretSteps();
        } else if (typed.matches()) {
            for (char c : typed.group(1).toCharArray()) {
                x.type(c);
            }
        } else if (call.matches()) {
            asked++;
            long got = answer(call.group(1), call.group(2)).longValue();
            if (got != Long.parseLong(call.group(3))) {
                fails(line, "answered " + got);
            }
        } else {
            fails(line, "is no call with its answer behind it");
        }
    }

    public static void main(String[] args) throws Exception {
        boolean example = false;
        for (String line : Files.readAllLines(Path.of("README.md"))) {
            if (line.startsWith("```")) {
                example = line.equals("```java");
            } else if (example && !line.isBlank()) {
                follow(line);
            }
        }
        if (asked == 0) {
            fails("", "has no example");
        }
        System.out.println("ReadmeTest: " + asked + " answers asked, " + wrong + " wrong");
        if (wrong != 0) {
            System.exit(1);
        }
    }
}
