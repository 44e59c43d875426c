import java.io.IOException;
import java.lang.reflect.Method;
import java.lang.reflect.Modifier;
import java.nio.file.Files;
import java.nio.file.Path;
import java.util.List;
import java.util.regex.Matcher;
import java.util.regex.Pattern;

/** What README.md tells of the class: its calls answer so, and none is left out. To be run in README.md's folder. */
public final class ReadmeTest {
    private static final Checks CHECKS = new Checks("ReadmeTest");
    private static final Pattern CALL = Pattern.compile("quest\\.(\\w+)\\((.*)\\); +// (?:(\\w+|-\\d+): )?.*");

    public static void main(String[] args) throws IOException, ReflectiveOperationException {
        List<String> lines = Files.readAllLines(Path.of("README.md"));
        int calls = 0;
        LockQuest quest = new LockQuest();
        for (String line : lines) {
            Matcher call = CALL.matcher(line);
            if (call.matches()) {
                calls++;
                answer(quest, call.group(1), call.group(2), call.group(3));
            }
        }
        CHECKS.due("calls are shown", calls > 0, true);
        for (Method method : faceMethods()) {
            CHECKS.due(method.getName() + " is told", lines.stream().anyMatch(l -> isRowOf(l, method)), true);
        }
        CHECKS.end();
    }

    private static List<Method> faceMethods() {
        return List.of(LockQuest.class.getDeclaredMethods()).stream()
                .filter(method -> Modifier.isPublic(method.getModifiers())).toList();
    }

    private static boolean isRowOf(String line, Method method) {
        return line.startsWith("| `" + method.getName() + "(");
    }

    private static void answer(LockQuest quest, String name, String arguments, String due)
            throws ReflectiveOperationException {
        for (Method method : faceMethods()) {
            if (method.getName().equals(name)) {
                Object got = method.invoke(quest, valuesOf(method, arguments));
                CHECKS.due(name + "(" + arguments + ")", String.valueOf(got), valueOf(due));
                return;
            }
        }
        CHECKS.due("there is a method " + name, false, true);
    }

    private static Object[] valuesOf(Method method, String arguments) {
        String[] texts = arguments.isEmpty() ? new String[0] : arguments.split(", ");
        Object[] values = new Object[texts.length];
        for (int i = 0; i < texts.length; i++) {
            boolean isLong = method.getParameterTypes()[i] == long.class;
            values[i] = isLong ? (Object) Long.valueOf(texts[i]) : (Object) Integer.valueOf(texts[i]);
        }
        return values;
    }

    /** An answer as it is printed: of a constant its number, and null where none is told. */
    private static String valueOf(String due) throws ReflectiveOperationException {
        boolean isConstant = due != null && Character.isUpperCase(due.charAt(0));
        return isConstant ? String.valueOf(LockQuest.class.getField(due).getInt(null)) : String.valueOf(due);
    }
}
