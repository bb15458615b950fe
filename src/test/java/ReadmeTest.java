import java.io.IOException;
import java.io.UncheckedIOException;
import java.lang.reflect.Method;
import java.nio.file.Files;
import java.nio.file.Path;
import java.util.ArrayList;
import java.util.HashMap;
import java.util.List;
import java.util.Map;
import java.util.Set;
import java.util.TreeSet;
import java.util.regex.Matcher;
import java.util.regex.Pattern;
import java.util.stream.Collectors;
import java.util.stream.Stream;

/** What README.md says holds: its example, its tables of the calls and of the tests. Run from the project's directory. */
public final class ReadmeTest {
    private static final Pattern EXAMPLE_CALL =
            Pattern.compile("(?:int (\\w+) = )?bells\\.(\\w+)\\((.*)\\);\\s+// ([-.\\d]+): .+");
    private static final Pattern CALL_ROW = Pattern.compile("\\| `(\\w+ \\w+\\(.*?\\))` \\| .+ \\|(.*)\\|");
    private static final Pattern TEST_ROW = Pattern.compile("\\| `(\\w+Test)` \\| .+ \\|");

    public static void main(String[] args) {
        List<String> lines = linesOf(Path.of("README.md"));
        theExampleAnswersSo(lines);
        everyCallHasItsRow(lines);
        everyTestHasItsRow(lines);
        Check.end();
    }

    private static void theExampleAnswersSo(List<String> lines) {
        BridgeBells bells = new BridgeBells();
        Map<String, String> named = new HashMap<>();
        Set<String> shown = new TreeSet<>();
        int from = lines.indexOf("```java") + 1;
        Check.same("the example makes an object",
                lines.get(from).equals("BridgeBells bells = new BridgeBells();") ? 1 : 0, 1);
        for (int i = from + 1; !lines.get(i).equals("```"); i++) {
            Matcher call = EXAMPLE_CALL.matcher(lines.get(i));
            boolean read = call.matches();
            Check.same("read as a call with its answer: " + lines.get(i), read ? 1 : 0, 1);
            if (!read) {
                continue;
            }
            String answer = answerOf(bells, call.group(2), call.group(3), named);
            Check.same(lines.get(i) + " answers " + answer, answer.equals(call.group(4)) ? 1 : 0, 1);
            if (call.group(1) != null) {
                named.put(call.group(1), answer);
            }
            shown.add(call.group(2));
        }
        Check.same("calls that the example shows", shown.size(), faceOfTheClass().size());
    }

    private static String answerOf(BridgeBells bells, String name, String arguments, Map<String, String> named) {
        List<Object> values = new ArrayList<>();
        for (String argument : arguments.isEmpty() ? new String[0] : arguments.split(", ")) {
            String value = named.getOrDefault(argument, argument);
            values.add(value.equals("true") || value.equals("false")
                    ? (Object) Boolean.valueOf(value) : (Object) Integer.valueOf(value));
        }
        for (Method method : faceOfTheClass()) {
            if (method.getName().equals(name)) {
                return answerOf(bells, method, values);
            }
        }
        return "no such call";
    }

    private static String answerOf(BridgeBells bells, Method method, List<Object> values) {
        try {
            return String.valueOf(method.invoke(bells, values.toArray()));
        } catch (ReflectiveOperationException e) {
            return "an exception, " + e;
        }
    }

    /** With its types in their order, and with its exceptions in theirs. */
    private static void everyCallHasItsRow(List<String> lines) {
        Set<String> told = new TreeSet<>();
        for (String line : lines) {
            Matcher row = CALL_ROW.matcher(line);
            if (row.matches()) {
                told.add(row.group(1).replaceAll(" \\w+(?=[,)])", "") + exceptionsIn(row.group(2)));
            }
        }
        Set<String> due = new TreeSet<>();
        for (Method method : faceOfTheClass()) {
            due.add(textOf(method));
        }
        Check.same("the calls of README.md, " + told + ", due are " + due, told.equals(due) ? 1 : 0, 1);
    }

    private static String exceptionsIn(String cell) {
        StringBuilder text = new StringBuilder();
        Matcher name = Pattern.compile("`(\\w+Exception)`").matcher(cell);
        while (name.find()) {
            text.append(' ').append(name.group(1));
        }
        return text.toString();
    }

    private static String textOf(Method method) {
        String types = Stream.of(method.getParameterTypes()).map(Class::getSimpleName)
                .collect(Collectors.joining(", "));
        String exceptions = Stream.of(method.getExceptionTypes()).map(e -> " " + e.getSimpleName())
                .collect(Collectors.joining());
        return method.getReturnType().getSimpleName() + " " + method.getName() + "(" + types + ")" + exceptions;
    }

    private static void everyTestHasItsRow(List<String> lines) {
        Set<String> told = new TreeSet<>();
        for (String line : lines) {
            Matcher row = TEST_ROW.matcher(line);
            if (row.matches()) {
                told.add(row.group(1) + ".java");
            }
        }
        Set<String> due = testsThatThereAre();
        Check.same("the tests of README.md, " + told + ", due are " + due, told.equals(due) ? 1 : 0, 1);
    }

    private static Set<String> testsThatThereAre() {
        try (Stream<Path> files = Files.list(Path.of("src/test/java"))) {
            return files.map(file -> file.getFileName().toString()).filter(name -> name.endsWith("Test.java"))
                    .collect(Collectors.toCollection(TreeSet::new));
        } catch (IOException e) {
            throw new UncheckedIOException(e);
        }
    }

    private static List<Method> faceOfTheClass() {
        List<Method> face = new ArrayList<>();
        for (Method method : BridgeBells.class.getMethods()) {
            if (method.getDeclaringClass() == BridgeBells.class) {
                face.add(method);
            }
        }
        return face;
    }

    private static List<String> linesOf(Path file) {
        try {
            return Files.readAllLines(file);
        } catch (IOException e) {
            throw new UncheckedIOException(e);
        }
    }
}
