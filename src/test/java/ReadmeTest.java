import java.io.IOException;
import java.lang.reflect.InvocationTargetException;
import java.lang.reflect.Method;
import java.lang.reflect.Modifier;
import java.nio.charset.StandardCharsets;
import java.nio.file.Files;
import java.nio.file.Path;
import java.util.HashMap;
import java.util.List;
import java.util.Map;
import java.util.regex.Matcher;
import java.util.regex.Pattern;

/**
 * The example of README.md: each call is made, and its answer is the one that stands behind it. The
 * table has all calls.
 */
public final class ReadmeTest {
    private static final Pattern NEW = Pattern.compile(
            "EqualityProver p = new EqualityProver\\((-?\\d+)\\);.*");
    private static final Pattern CALL = Pattern.compile(
            "(?:int (\\w+) = )?p\\.(\\w+)\\((.*?)\\);\\s*// (\\w+).*");

    private static int made = 0;
    private static int wrong = 0;

    private static void fault(String what) {
        wrong++;
        System.out.println("README.md: " + what);
    }

    private static List<String> example(List<String> lines) {
        int from = lines.indexOf("```java") + 1;
        int to = from + lines.subList(from, lines.size()).indexOf("```");
        return lines.subList(from, to);
    }

    private static Object valueOf(String text, Map<String, Integer> names) {
        if (text.equals("true") || text.equals("false")) {
            return Boolean.valueOf(text);
        }
        return names.containsKey(text) ? names.get(text) : Integer.valueOf(text);
    }

    private static Method methodNamed(String name) {
        for (Method m : EqualityProver.class.getDeclaredMethods()) {
            if (m.getName().equals(name) && Modifier.isPublic(m.getModifiers())) {
                return m;
            }
        }
        throw new IllegalArgumentException("no call " + name);
    }

    private static Object answer(EqualityProver p, String name, String arguments, Map<String, Integer> names)
            throws IllegalAccessException {
        String[] texts = arguments.isEmpty() ? new String[0] : arguments.split(", ");
        Object[] values = new Object[texts.length];
        for (int i = 0; i < texts.length; i++) {
            values[i] = valueOf(texts[i], names);
        }
        try {
            return methodNamed(name).invoke(p, values);
        } catch (InvocationTargetException e) {
            return e.getCause().getClass().getSimpleName();
        }
    }

    private static void checkExample(List<String> lines) throws IllegalAccessException {
        EqualityProver p = null;
        Map<String, Integer> names = new HashMap<>();
        for (String line : lines) {
            Matcher start = NEW.matcher(line);
            Matcher call = CALL.matcher(line);
            if (start.matches()) {
                p = new EqualityProver(Integer.parseInt(start.group(1)));
            } else if (p == null || !call.matches()) {
                fault("can't be read: " + line);
            } else {
                Object got = answer(p, call.group(2), call.group(3), names);
                made++;
                if (!call.group(4).equals(String.valueOf(got))) {
                    fault("the class answers " + got + ": " + line);
                }
                if (call.group(1) != null && got instanceof Integer) {
                    names.put(call.group(1), (Integer) got);
                }
            }
        }
    }

    private static void checkTable(List<String> lines) {
        StringBuilder table = new StringBuilder();
        for (String line : lines) {
            table.append(line.startsWith("|") ? line : "");
        }
        for (Method m : EqualityProver.class.getDeclaredMethods()) {
            if (Modifier.isPublic(m.getModifiers()) && table.indexOf("`" + m.getName() + "(") < 0) {
                fault("the table has no " + m.getName());
            }
        }
    }

    public static void main(String[] args) throws IOException, IllegalAccessException {
        List<String> lines = Files.readAllLines(Path.of("README.md"), StandardCharsets.UTF_8);
        checkExample(example(lines));
        checkTable(lines);
        if (made == 0) {
            fault("no call is in the example");
        }
        System.out.println(wrong == 0 ? made + " answers are as due" : wrong + " faults");
        if (wrong != 0) {
            System.exit(1);
        }
    }
}
