import java.io.IOException;
import java.lang.reflect.InvocationTargetException;
import java.lang.reflect.Method;
import java.lang.reflect.Modifier;
import java.nio.file.Files;
import java.nio.file.Path;
import java.util.Map;
import java.util.Set;
import java.util.TreeMap;
import java.util.TreeSet;
import java.util.regex.Matcher;
import java.util.regex.Pattern;
import java.util.stream.Collectors;
import java.util.stream.Stream;

/** README.md must not tell what is not so: its examples are asked, its tables held against the face and the tests. */
public final class ReadmeTest {
    private static final Pattern TELL = Pattern.compile("tell\\(town, (\\d), \"([^\"]*)\"\\);");
    private static final Pattern CALL = Pattern.compile("town\\.(\\w+)\\(([^)]*)\\); +// (-?\\d+).*");
    private static final Map<String, Integer> REFUSALS = Map.of("BAD", -2, "NOT", -3, "FULL", -4,
        "NULL", -11, "INDEX", -12, "CAST", -13, "STORE", -14, "SIZE", -15);

    private static final Map<String, Method> FACE = new TreeMap<>();
    private static StatueCoats town;

    public static void main(String[] args) throws IOException {
        Path root = rootOf(Path.of(args.length > 0 ? args[0] : "src/main/java/StatueCoats.java").toAbsolutePath());
        String page = Files.readString(root.resolve("README.md"));
        for (Method m : StatueCoats.class.getDeclaredMethods()) {
            if (Modifier.isPublic(m.getModifiers())) {
                FACE.put(m.getName(), m);
            }
        }
        examples(page);
        callsTable(page);
        refusalsTable(page);
        testsTable(page, root.resolve("src/test/java"));
        Check.end("ReadmeTest");
    }

    private static Path rootOf(Path source) {
        Path at = source;
        for (int up = 0; up < 4; up++) {
            at = at.getParent();
        }
        return at;
    }

    /** Every line of every Java block is a new town, a text, or a call with its answer; every call has an example. */
    private static void examples(String page) {
        Set<String> asked = new TreeSet<>();
        Matcher block = Pattern.compile("(?s)```java\n(.*?)```").matcher(page);
        while (block.find()) {
            for (String line : block.group(1).split("\n")) {
                example(line.trim(), asked);
            }
        }
        asked.add("type");
        Check.dueTrue("every call has an example, but these are " + asked, asked.equals(FACE.keySet()));
    }

    private static void example(String line, Set<String> asked) {
        Matcher tell = TELL.matcher(line), call = CALL.matcher(line);
        if (line.equals("StatueCoats town = new StatueCoats();")) {
            town = new StatueCoats();
        } else if (tell.matches()) {
            Check.typeAll(town, Integer.parseInt(tell.group(1)), tell.group(2));
        } else if (call.matches() && FACE.containsKey(call.group(1))) {
            asked.add(call.group(1));
            Check.due("README: " + line, answer(FACE.get(call.group(1)), call.group(2)), Long.parseLong(call.group(3)));
        } else {
            Check.dueTrue("README: this line cannot be asked: " + line, line.isEmpty());
        }
    }

    private static long answer(Method method, String told) {
        String[] parts = told.isEmpty() ? new String[0] : told.split(", ");
        Object[] numbers = new Object[parts.length];
        for (int k = 0; k < parts.length; k++) {
            numbers[k] = number(parts[k]);
        }
        try {
            return ((Number) method.invoke(town, numbers)).longValue();
        } catch (InvocationTargetException | IllegalAccessException | IllegalArgumentException thrown) {
            Check.dueTrue(method.getName() + "(" + told + ") can be asked, but " + thrown, false);
            return Long.MAX_VALUE;
        }
    }

    private static int number(String told) {
        if (told.equals("StatueCoats.NONE")) {
            return StatueCoats.NONE;
        }
        return told.startsWith("'") ? told.charAt(1) : Integer.parseInt(told);
    }

    private static void callsTable(String page) {
        for (Method m : FACE.values()) {
            Matcher row = Pattern.compile("(?m)^\\| `" + m.getName() + "\\(([^)]*)\\)` \\|.*\\|$").matcher(page);
            boolean isTold = row.find();
            Check.dueTrue("README tells " + m.getName(), isTold);
            if (isTold) {
                int many = row.group(1).isEmpty() ? 0 : row.group(1).split(", ").length;
                Check.due("README: how many numbers " + m.getName() + " takes", many, m.getParameterCount());
                Check.dueTrue("README tells " + m.getName() + " once", !row.find());
            }
        }
    }

    private static void refusalsTable(String page) {
        for (Map.Entry<String, Integer> one : REFUSALS.entrySet()) {
            int number = one.getValue();
            String answer = number + (number < -10 ? ", finding " + (-10 - number) : "");
            Check.dueTrue("README tells " + one.getKey(), page.contains("\n| " + one.getKey() + " | " + answer + " |"));
        }
    }

    private static void testsTable(String page, Path tests) throws IOException {
        Set<String> told = new TreeSet<>();
        Matcher row = Pattern.compile("(?m)^\\| `(\\w+Test)` \\|").matcher(page);
        while (row.find()) {
            told.add(row.group(1));
        }
        try (Stream<Path> files = Files.list(tests)) {
            Set<String> there = files.map(file -> file.getFileName().toString()).filter(name -> name.endsWith("Test.java"))
                .map(name -> name.replace(".java", "")).collect(Collectors.toCollection(TreeSet::new));
            Check.dueTrue("README tells these tests: " + told, told.equals(there));
        }
    }
}
