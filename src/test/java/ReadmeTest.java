import java.lang.reflect.Method;
import java.lang.reflect.Modifier;
import java.nio.file.Files;
import java.nio.file.Path;
import java.util.ArrayList;
import java.util.HashMap;
import java.util.List;
import java.util.Map;
import java.util.TreeSet;
import java.util.regex.Matcher;
import java.util.regex.Pattern;
import java.util.stream.Stream;

/** What README.md says is so: the answers of its example, the calls that it tells, the tests that it names. */
public final class ReadmeTest {
    private static final Checks CHECKS = new Checks();
    private static final Path README = Path.of("README.md");
    private static final Path TESTS = Path.of("src/test/java");
    private static final Pattern CALL =
        Pattern.compile("(?:int (\\w+) = )?desk\\.(\\w+)\\((.*)\\); +// (true|false|-?\\d+)\\b.*");

    public static void main(String[] args) throws Exception {
        String text = Files.readString(README);
        example(text);
        calls(text);
        tests(text);
        CHECKS.end();
    }

    private static void example(String text) throws Exception {
        CHECKS.topic("the example");
        int start = text.indexOf("```java\n");
        int end = text.indexOf("\n```\n", start);
        CHECKS.due("there is one", start >= 0 && end > start, true);
        if (start < 0 || end <= start) {
            return;
        }
        List<String> lines = text.substring(start, end).lines().skip(1).toList();
        CHECKS.due("it makes a desk first", lines.get(0).startsWith("PaneDesk desk = new PaneDesk();"), true);
        PaneDesk desk = new PaneDesk();
        Map<String, Integer> names = new HashMap<>();
        for (String line : lines.subList(1, lines.size())) {
            Matcher call = CALL.matcher(line);
            CHECKS.due("a call with its answer: " + line, call.matches(), true);
            if (call.matches()) {
                Object answer = answer(desk, call.group(2), call.group(3), names);
                CHECKS.due(line + " (it answered " + answer + ")", call.group(4).equals(String.valueOf(answer)), true);
                if (call.group(1) != null && answer instanceof Integer number) {
                    names.put(call.group(1), number);
                }
            }
        }
    }

    private static Object answer(PaneDesk desk, String name, String given, Map<String, Integer> names) throws Exception {
        List<Object> values = new ArrayList<>();
        for (String one : given.isEmpty() ? new String[0] : given.split(", ")) {
            values.add(names.containsKey(one) ? names.get(one) : Integer.valueOf(one));
        }
        return method(name).invoke(desk, values.toArray());
    }

    private static Method method(String name) {
        return publicMethods().filter(m -> m.getName().equals(name)).findFirst().orElseThrow();
    }

    private static Stream<Method> publicMethods() {
        return Stream.of(PaneDesk.class.getDeclaredMethods()).filter(m -> Modifier.isPublic(m.getModifiers()));
    }

    /** The tables tell each call once, with as many arguments as it takes. */
    private static void calls(String text) {
        CHECKS.topic("the tables");
        Map<String, Integer> told = new HashMap<>();
        Matcher row = Pattern.compile("(?m)^\\| `(\\w+)\\((.*?)\\)` \\| .+ \\|$").matcher(text);
        while (row.find()) {
            int arguments = row.group(2).isEmpty() ? 0 : row.group(2).split(", ").length;
            CHECKS.due(row.group(1) + " is told once", told.put(row.group(1), arguments) == null, true);
        }
        publicMethods().forEach(m ->
            CHECKS.due("arguments of " + m.getName(), told.getOrDefault(m.getName(), -1), m.getParameterCount()));
        CHECKS.due("how many calls are told", told.size(), publicMethods().count());
    }

    private static void tests(String text) throws Exception {
        CHECKS.topic("the tests");
        TreeSet<String> there = new TreeSet<>();
        try (Stream<Path> files = Files.list(TESTS)) {
            files.map(file -> file.getFileName().toString().replace(".java", "")).forEach(there::add);
        }
        for (String name : there) {
            CHECKS.due(name + " is named", text.matches("(?s).*[`/]" + name + "(\\.java)?`.*"), true);
        }
        Matcher named = Pattern.compile("`(?:src/test/java/)?(\\w+Test|Desk\\w+|Checks)(?:\\.java)?`").matcher(text);
        while (named.find()) {
            CHECKS.due(named.group(1) + " is there", there.contains(named.group(1)), true);
        }
    }
}
