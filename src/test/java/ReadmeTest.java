import java.lang.reflect.Method;
import java.nio.charset.StandardCharsets;
import java.nio.file.Files;
import java.nio.file.Paths;
import java.util.regex.Matcher;
import java.util.regex.Pattern;

/** The calls that README.md shows, one behind the other: each answers what stands behind it. */
public final class ReadmeTest {
    private static final Pattern CALL = Pattern.compile("quarter\\.(\\w+)\\(([^)]*)\\); +// (true|false|-?\\d+)\\b.*");
    private static int wrong = 0;
    private static int calls = 0;

    public static void main(String[] args) throws Exception {
        if (args.length == 0) {
            System.out.println("README.md is not told");
            System.exit(1);
        }
        GhostQuarter quarter = new GhostQuarter();
        boolean isJava = false;
        for (String line : Files.readAllLines(Paths.get(args[0]), StandardCharsets.ISO_8859_1)) {
            if (line.startsWith("```")) {
                isJava = line.equals("```java");
            } else if (isJava && line.startsWith("quarter.")) {
                call(quarter, line);
            }
        }
        if (calls == 0) {
            wrong++;
        }
        System.out.println(calls + " calls, " + wrong + " answers are not as due");
        if (wrong != 0) {
            System.exit(1);
        }
    }

    private static void call(GhostQuarter quarter, String line) throws Exception {
        Matcher m = CALL.matcher(line);
        if (!m.matches()) {
            wrong++;
            System.out.println("no call with its answer: " + line);
            return;
        }
        String[] told = m.group(2).isEmpty() ? new String[0] : m.group(2).split(", ");
        for (Method method : GhostQuarter.class.getMethods()) {
            if (method.getName().equals(m.group(1)) && method.getParameterCount() == told.length) {
                Object[] values = new Object[told.length];
                for (int i = 0; i < told.length; i++) {
                    values[i] = value(told[i], method.getParameterTypes()[i]);
                }
                due(line, String.valueOf(method.invoke(quarter, values)), m.group(3));
                return;
            }
        }
        due(line, "nothing", m.group(3));
    }

    private static Object value(String told, Class<?> type) {
        if (type == boolean.class) {
            return Boolean.valueOf(told);
        }
        return Integer.decode(told);
    }

    private static void due(String line, String got, String want) {
        calls++;
        if (!got.equals(want)) {
            wrong++;
            System.out.println(line + " answered " + got);
        }
    }
}
