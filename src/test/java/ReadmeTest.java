import java.lang.reflect.Method;
import java.nio.charset.StandardCharsets;
import java.nio.file.Files;
import java.nio.file.Paths;
import java.util.regex.Matcher;
import java.util.regex.Pattern;

/** README.md's calls are made on one object, and must answer what stands behind each of them. */
public final class ReadmeTest {
    private static final Pattern CALL = Pattern.compile("x\\.(\\w+)\\(([^)]*)\\);\\s+// (-?\\d+)(:.*)?");

    private static int wrong = 0;

    private static void must(boolean holds, String what) {
        if (!holds) {
            wrong++;
            System.out.println(what);
        }
    }

    public static void main(String[] args) throws Exception {
        String page = new String(Files.readAllBytes(Paths.get("README.md")), StandardCharsets.UTF_8);
        Matcher block = Pattern.compile("(?s)```java\\n(.*?)```").matcher(page);
        must(block.find(), "README.md shows no code");
        ShadeCarpets x = new ShadeCarpets();
        int calls = 0;
        String[] lines = wrong == 0 ? block.group(1).split("\\n") : new String[0];
        for (String line : lines) {
            if (line.isEmpty() || line.equals("ShadeCarpets x = new ShadeCarpets();")) {
                continue;
            }
            Matcher m = CALL.matcher(line);
            if (m.matches()) {
                long got = answer(x, m.group(1), m.group(2));
                must(got == Long.parseLong(m.group(3)), line + " -- answered " + got);
                calls++;
            } else {
                must(false, "no call with its answer: " + line);
            }
        }
        must(calls > 0, "README.md shows no call");
        System.out.println(wrong == 0 ? "README.md's calls answer as it says" : wrong + " lines are not so");
        if (wrong != 0) {
            System.exit(1);
        }
    }

    private static long answer(ShadeCarpets x, String name, String told) throws Exception {
        String[] numbers = told.isEmpty() ? new String[0] : told.split(", ");
        for (Method m : ShadeCarpets.class.getMethods()) {
            if (m.getName().equals(name) && m.getParameterCount() == numbers.length) {
                Object[] values = new Object[numbers.length];
                for (int i = 0; i < numbers.length; i++) {
                    long v = Long.decode(numbers[i]);
                    values[i] = m.getParameterTypes()[i] == long.class ? (Object) v : (Object) (int) v;
                }
                return ((Number) m.invoke(x, values)).longValue();
            }
        }
        must(false, "no such call: " + name);
        return 0;
    }
}
