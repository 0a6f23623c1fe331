import java.io.IOException;
import java.lang.reflect.InvocationTargetException;
import java.lang.reflect.Method;
import java.lang.reflect.Modifier;
import java.nio.file.Files;
import java.nio.file.Path;
import java.util.ArrayList;
import java.util.List;
import java.util.Map;
import java.util.regex.Matcher;
import java.util.regex.Pattern;

/** README.md tells the truth: its example answers what it says, its tables have every call and what it throws. */
final class ReadmeTest {
    private static final Pattern CALL = Pattern.compile("book\\.(\\w+)\\(([^)]*)\\);");
    private static final Pattern ANSWER = Pattern.compile("// (-?[\\w.]+)");
    private static final Pattern ROW = Pattern.compile("\\| `(\\w+)\\(([^)]*)\\)` \\|.*\\| (.*) \\|");
    private static final Map<String, String> SHORT = Map.of("IndexOutOfBoundsException", "Index",
            "IllegalArgumentException", "Argument", "IllegalStateException", "State");

    private final Check check = new Check();
    private final List<String> lines;

    private ReadmeTest(List<String> lines) {
        this.lines = lines;
    }

    public static void main(String[] args) throws IOException {
        ReadmeTest test = new ReadmeTest(Files.readAllLines(Path.of("README.md")));
        test.exampleAnswers();
        test.everyCallHasARow();
        test.check.holds("it says how to run the tests", test.lines.contains("    .ci/run"));
        test.check.end("ReadmeTest");
    }

    private static Method named(String name) {
        for (Method method : LeaseBook.class.getMethods()) {
            if (method.getName().equals(name) && method.getDeclaringClass() == LeaseBook.class) {
                return method;
            }
        }
        return null;
    }

    private static List<String> split(String text, String sign) {
        List<String> parts = new ArrayList<>();
        for (String part : text.split(sign)) {
            if (!part.isBlank()) {
                parts.add(part.trim());
            }
        }
        return parts;
    }

    private void exampleAnswers() {
        int begin = lines.indexOf("```java");
        int looked = check.looked();
        LeaseBook book = new LeaseBook();
        for (int i = begin + 1; begin >= 0 && i < lines.size() && !lines.get(i).equals("```"); i++) {
            String line = lines.get(i);
            String last = null;
            for (Matcher call = CALL.matcher(line); call.find();) {
                last = outcome(book, call.group(1), split(call.group(2), ","));
            }
            Matcher answer = ANSWER.matcher(line);
            if (last != null) {
                check.same("README.md, line " + (i + 1), answer.find() ? answer.group(1) : "nothing", last);
            }
        }
        check.holds("README.md has an example", check.looked() > looked);
    }

    private static String outcome(LeaseBook book, String name, List<String> texts) {
        Method method = named(name);
        if (method == null || method.getParameterCount() != texts.size()) {
            return "no such call";
        }
        Object[] numbers = new Object[texts.size()];
        for (int i = 0; i < numbers.length; i++) {
            String text = texts.get(i);
            numbers[i] = text.startsWith("'") ? text.charAt(1) : Integer.parseInt(text);
        }
        try {
            return method.invoke(book, numbers).toString();
        } catch (InvocationTargetException e) {
            return e.getCause().getClass().getSimpleName();
        } catch (IllegalAccessException e) {
            return "not to be called";
        }
    }

    private void everyCallHasARow() {
        List<String> missing = new ArrayList<>();
        for (Method method : LeaseBook.class.getDeclaredMethods()) {
            if (Modifier.isPublic(method.getModifiers())) {
                missing.add(method.getName());
            }
        }
        for (String line : lines) {
            Matcher row = ROW.matcher(line);
            if (row.matches()) {
                String name = row.group(1);
                check.holds("README.md has one row for " + name, missing.remove(name));
                rowIsTrue(named(name), split(row.group(2), ","), row.group(3));
            }
        }
        check.same("calls without a row in README.md", missing.toString(), "[]");
    }

    private void rowIsTrue(Method method, List<String> parameters, String thrown) {
        if (method != null) {
            check.due("README.md, arguments of " + method.getName(), parameters.size(), method.getParameterCount());
            List<String> want = new ArrayList<>();
            for (Class<?> type : method.getExceptionTypes()) {
                want.add(SHORT.get(type.getSimpleName()));
            }
            List<String> got = new ArrayList<>();
            for (String part : split(thrown, ";")) {
                got.add(part.split(":")[0]);
            }
            check.same("README.md, what " + method.getName() + " throws", got.toString(),
                    want.isEmpty() ? "[nothing]" : want.toString());
        }
    }
}
