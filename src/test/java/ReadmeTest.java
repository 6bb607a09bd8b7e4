import java.lang.reflect.Method;
import java.nio.file.Files;
import java.nio.file.Path;
import java.util.HashSet;
import java.util.Set;
import java.util.regex.Matcher;
import java.util.regex.Pattern;

/** README.md's examples, one run of calls on one object, answer what it says; its table has every call. */
public final class ReadmeTest {
    private static final Checks C = new Checks("ReadmeTest");
    private static final Pattern CALL = Pattern.compile("x\\.(\\w+)\\(([^)]*)\\); +// (-?\\d+).*");

    public static void main(String[] args) throws Exception {
        String page = Files.readString(Path.of("README.md"));
        examples(page);
        table(page);
        C.end();
    }

    private static void examples(String page) throws Exception {
        BesideWalk x = new BesideWalk();
        boolean inCode = false;
        int calls = 0;
        for (String line : page.split("\n")) {
            if (line.startsWith("```")) {
                inCode = line.equals("```java");
            } else if (inCode && line.startsWith("x.")) {
                Matcher m = CALL.matcher(line);
                C.holds("a call with its answer: " + line, m.matches());
                if (m.matches()) {
                    C.due(line, answer(x, m.group(1), m.group(2)), Long.parseLong(m.group(3)));
                    calls++;
                }
            }
        }
        C.holds("examples stand there", calls >= 20);
    }

    private static long answer(BesideWalk x, String name, String told) throws Exception {
        String[] parts = told.isEmpty() ? new String[0] : told.split(", ");
        Object[] numbers = new Object[parts.length];
        Class<?>[] types = new Class<?>[parts.length];
        for (int i = 0; i < parts.length; i++) {
            numbers[i] = Integer.parseInt(parts[i]);
            types[i] = int.class;
        }
        Method call = BesideWalk.class.getMethod(name, types);
        return ((Number) call.invoke(x, numbers)).longValue();
    }

    private static void table(String page) {
        Set<String> told = new HashSet<>();
        Matcher m = Pattern.compile("(?m)^\\| `(\\w+)\\(").matcher(page);
        while (m.find()) {
            C.holds("told once: " + m.group(1), told.add(m.group(1)));
        }
        Set<String> due = new HashSet<>();
        for (Method method : BesideWalk.class.getMethods()) {
            if (method.getDeclaringClass() == BesideWalk.class) {
                due.add(method.getName());
            }
        }
        C.holds("the table's calls are those of the class: " + told, told.equals(due));
    }
}
