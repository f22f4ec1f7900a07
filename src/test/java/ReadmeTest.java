import java.lang.reflect.InvocationTargetException;
import java.lang.reflect.Method;
import java.lang.reflect.Modifier;
import java.nio.file.Files;
import java.nio.file.Path;
import java.util.List;
import java.util.TreeSet;
import java.util.regex.Matcher;
import java.util.regex.Pattern;

/** The examples of README.md, in the directory where the test is run, answer what is written there. */
public final class ReadmeTest {
    private static final Pattern MADE = Pattern.compile("ConsHouse house = new ConsHouse\\((\\d+), (\\d+), (\\d+)\\);");
    private static final Pattern CALL =
        Pattern.compile("house\\.(\\w+)\\((?:(0x[0-9A-F]+)L|(\\d*))\\);(?:\\s+// ([\\w-]+)(?:: .*)?)?");
    private static final Pattern ROW = Pattern.compile("\\| `(.+)` \\| (?:`(.+)`|fault (\\d+): [^|]+) \\|");

    private static Method methodOf(String name) {
        for (Method method : ConsHouse.class.getDeclaredMethods()) {
            if (method.getName().equals(name)) {
                return method;
            }
        }
        throw new IllegalArgumentException("no method " + name);
    }

    /** What a call answers: the answer's text, the exception's name, "null" for a method without an answer. */
    private static String answerOf(ConsHouse house, Matcher call) throws IllegalAccessException {
        Method method = methodOf(call.group(1));
        String number = call.group(2) != null ? call.group(2) : call.group(3);
        try {
            if (method.getParameterCount() == 0) {
                return "" + method.invoke(house);
            }
            boolean isLong = method.getParameterTypes()[0] == long.class;
            return "" + (isLong ? method.invoke(house, Long.decode(number).longValue())
                : method.invoke(house, Integer.decode(number).intValue()));
        } catch (InvocationTargetException e) {
            return e.getCause().getClass().getSimpleName();
        }
    }

    private static int firstLine(List<String> lines, String beginning) {
        for (int k = 0; k < lines.size(); k++) {
            if (lines.get(k).startsWith(beginning)) {
                return k + 1;
            }
        }
        throw new IllegalArgumentException("no line begins with " + beginning);
    }

    private static void calls(List<String> lines) throws IllegalAccessException {
        Probe.sentence("README.md, Example");
        ConsHouse house = null;
        TreeSet<String> called = new TreeSet<>();
        for (int k = firstLine(lines, "```java"); !lines.get(k).equals("```"); k++) {
            String line = lines.get(k);
            Matcher made = MADE.matcher(line);
            Matcher call = CALL.matcher(line);
            if (made.matches()) {
                house = new ConsHouse(Integer.parseInt(made.group(1)), Integer.parseInt(made.group(2)),
                    Integer.parseInt(made.group(3)));
            } else if (call.matches()) {
                called.add(call.group(1));
                Probe.due(line, "" + call.group(4), answerOf(house, call));
            } else {
                Probe.due("a line that is neither empty nor a call", "", line);
            }
        }
        for (Method method : ConsHouse.class.getDeclaredMethods()) {
            if (Modifier.isPublic(method.getModifiers())) {
                Probe.due("the example calls " + method.getName(), true, called.contains(method.getName()));
            }
        }
    }

    private static void texts(List<String> lines) {
        Probe.sentence("README.md, The language");
        Probe probe = new Probe(300, 100, 5000);
        int rows = 0;
        for (int k = firstLine(lines, "| Text | Printed |") + 1; lines.get(k).startsWith("|"); k++) {
            Matcher row = ROW.matcher(lines.get(k));
            if (!row.matches()) {
                Probe.due("a row of a text and its answer", "", lines.get(k));
                continue;
            }
            probe.write(row.group(1)).call();
            probe.tells(row.group(3) == null ? 0 : Integer.parseInt(row.group(3)));
            probe.prints(row.group(2) == null ? "" : row.group(2));
            probe.clear();
            rows++;
        }
        Probe.due("there are rows", true, rows > 0);
    }

    public static void main(String[] args) throws Exception {
        List<String> lines = Files.readAllLines(Path.of("README.md"));
        calls(lines);
        texts(lines);
        Probe.end();
    }
}
