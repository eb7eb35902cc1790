import java.io.IOException;
import java.lang.reflect.Method;
import java.lang.reflect.Modifier;
import java.nio.file.Files;
import java.nio.file.Path;
import java.util.List;
import java.util.regex.Matcher;
import java.util.regex.Pattern;

/** README.md's example answers what it says, and its table names the whole face. Runs where README.md stands. */
public final class PaperStatesReadme {
    private static final Pattern CALL =
        Pattern.compile("papers\\.(\\w+)\\(([^)]*)\\);\\s+// (-?\\d+|true|false)(: .*)?");

    private static int wrong = 0;

    public static void main(String[] args) throws IOException, ReflectiveOperationException {
        List<String> lines = Files.readAllLines(Path.of("README.md"));
        int calls = runExample(lines);
        if (calls == 0) {
            tell("there is no example");
        }
        for (Method method : PaperStates.class.getDeclaredMethods()) {
            if (Modifier.isPublic(method.getModifiers()) && !isInTable(lines, method.getName())) {
                tell("the table does not name " + method.getName());
            }
        }
        System.out.println(calls + " calls of the example, " + wrong + " faults of README.md");
        if (wrong != 0) {
            System.exit(1);
        }
    }

    private static int runExample(List<String> lines) throws ReflectiveOperationException {
        PaperStates papers = new PaperStates();
        int calls = 0;
        int first = lines.indexOf("```java") + 2;
        for (int i = first; i < lines.size() && !lines.get(i).equals("```"); i++) {
            Matcher call = CALL.matcher(lines.get(i));
            if (!call.matches()) {
                tell("no call with its answer: " + lines.get(i));
                continue;
            }
            String got = answer(papers, call.group(1), call.group(2).split(", "));
            if (!got.equals(call.group(3))) {
                tell(lines.get(i) + " answered " + got);
            }
            calls++;
        }
        return calls;
    }

    private static String answer(PaperStates papers, String name, String[] texts) throws ReflectiveOperationException {
        for (Method method : PaperStates.class.getDeclaredMethods()) {
            if (method.getName().equals(name) && Modifier.isPublic(method.getModifiers())) {
                Class<?>[] types = method.getParameterTypes();
                Object[] values = new Object[types.length];
                for (int i = 0; i < types.length && i < texts.length; i++) {
                    values[i] = valueOf(types[i], texts[i]);
                }
                return texts.length == types.length ? String.valueOf(method.invoke(papers, values)) : "nothing";
            }
        }
        return "nothing";
    }

    private static Object valueOf(Class<?> type, String text) {
        if (type == long.class) {
            return Long.valueOf(text);
        }
        if (type == boolean.class) {
            return Boolean.valueOf(text);
        }
        return Integer.valueOf(text);
    }

    private static boolean isInTable(List<String> lines, String name) {
        return lines.stream().anyMatch(line -> line.startsWith("| `" + name + "("));
    }

    private static void tell(String text) {
        wrong++;
        System.out.println(text);
    }
}
