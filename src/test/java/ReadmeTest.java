import java.io.IOException;
import java.lang.reflect.InvocationTargetException;
import java.lang.reflect.Method;
import java.nio.file.DirectoryStream;
import java.nio.file.Files;
import java.nio.file.Path;
import java.util.ArrayList;
import java.util.HashSet;
import java.util.List;
import java.util.Set;
import java.util.TreeSet;
import java.util.regex.Matcher;
import java.util.regex.Pattern;

/** README.md is true: its calls answer what stands behind them, and it leaves out no call and no test. */
public final class ReadmeTest {
    private static final Pattern CALL = Pattern.compile("family\\.(\\w+)\\((.*)\\);(?: +// (.*))?");
    private static final Pattern ROW = Pattern.compile("\\| `(\\w+)\\((.*)\\)` \\|.*\\| (.*) \\|");

    private final TreeFamily family = new TreeFamily();
    private final Set<String> called = new HashSet<>();

    public static void main(String[] args) throws IOException, ReflectiveOperationException {
        List<String> lines = Files.readAllLines(Path.of("README.md"));
        ReadmeTest test = new ReadmeTest();
        test.callAll(lines);
        test.everyMethodIsCalled();
        everyMethodHasARow(lines);
        everyTestHasARow(lines);
        Check.end();
    }

    private void callAll(List<String> lines) throws ReflectiveOperationException {
        boolean isCode = false;
        for (String line : lines) {
            if (line.startsWith("```")) {
                isCode = line.equals("```java");
            } else if (isCode && !line.startsWith("TreeFamily family = new TreeFamily();")) {
                Matcher call = CALL.matcher(line);
                if (call.matches()) {
                    callOne(line, call);
                } else {
                    Check.fail("README: no call that can be read: " + line);
                }
            }
        }
    }

    /** What a call answers stands up to the first colon; a call without an answer may have any words there. */
    private void callOne(String line, Matcher call) throws ReflectiveOperationException {
        Method method = methodOf(call.group(1));
        called.add(method.getName());
        String due = String.valueOf(call.group(3)).replaceAll(":.*", "");
        String got = answer(method, arguments(method, call.group(2)));
        boolean isQuiet = method.getReturnType() == void.class && !due.endsWith("Exception");
        Check.same("README: " + line, isQuiet ? "nothing" : due, got);
    }

    private static Method methodOf(String name) {
        for (Method method : methods()) {
            if (method.getName().equals(name)) {
                return method;
            }
        }
        throw new IllegalStateException("README: no such method: " + name);
    }

    private static List<Method> methods() {
        List<Method> all = new ArrayList<>();
        for (Method method : TreeFamily.class.getMethods()) {
            if (method.getDeclaringClass() == TreeFamily.class) {
                all.add(method);
            }
        }
        return all;
    }

    private static Object[] arguments(Method method, String text) {
        String[] words = text.split(", ");
        Class<?>[] types = method.getParameterTypes();
        Object[] all = new Object[words.length];
        for (int i = 0; i < words.length; i++) {
            boolean isFlag = i < types.length && types[i] == boolean.class;
            all[i] = isFlag ? (Object) Boolean.valueOf(words[i]) : (Object) Integer.valueOf(words[i]);
        }
        return all;
    }

    private String answer(Method method, Object[] arguments) throws ReflectiveOperationException {
        try {
            Object got = method.invoke(family, arguments);
            return method.getReturnType() == void.class ? "nothing" : String.valueOf(got);
        } catch (InvocationTargetException thrown) {
            return thrown.getCause().getClass().getSimpleName();
        }
    }

    private void everyMethodIsCalled() {
        for (Method method : methods()) {
            Check.yes("README calls " + method.getName(), called.contains(method.getName()));
        }
    }

    private static void everyMethodHasARow(List<String> lines) {
        List<String> rows = new ArrayList<>();
        for (String line : lines) {
            Matcher row = ROW.matcher(line);
            if (row.matches()) {
                rows.add(row.group(1) + " " + row.group(2).split(", ").length + " " + letters(row.group(3)));
            }
        }
        Check.same("README: rows of calls", methods().size(), rows.size());
        for (Method method : methods()) {
            String due = method.getName() + " " + method.getParameterCount() + " " + letters(method);
            Check.yes("README has a row for " + due + " in " + rows, rows.contains(due));
        }
    }

    private static String letters(String cell) {
        StringBuilder all = new StringBuilder();
        for (String part : cell.split("[, ]+")) {
            if (part.matches("[ABS]")) {
                all.append(part);
            }
        }
        return all.toString();
    }

    private static String letters(Method method) {
        StringBuilder all = new StringBuilder();
        for (Class<?> type : method.getExceptionTypes()) {
            all.append(type == IllegalArgumentException.class ? 'A' : type == IllegalStateException.class ? 'S' : 'B');
        }
        return all.toString();
    }

    private static void everyTestHasARow(List<String> lines) throws IOException {
        Set<String> rows = new TreeSet<>();
        for (String line : lines) {
            if (line.matches("\\| \\w+Test \\|.*")) {
                rows.add(line.split(" ")[1]);
            }
        }
        Set<String> tests = new TreeSet<>();
        try (DirectoryStream<Path> files = Files.newDirectoryStream(Path.of("src/test/java"), "*Test.java")) {
            for (Path file : files) {
                tests.add(file.getFileName().toString().replace(".java", ""));
            }
        }
        Check.same("README: tests", tests.toString(), rows.toString());
    }
}
