import java.io.IOException;
import java.lang.reflect.Method;
import java.lang.reflect.Modifier;
import java.nio.charset.StandardCharsets;
import java.nio.file.Files;
import java.nio.file.Path;
import java.util.ArrayList;
import java.util.List;
import java.util.Map;
import java.util.Set;
import java.util.TreeMap;
import java.util.TreeSet;
import java.util.regex.Matcher;
import java.util.regex.Pattern;
import java.util.stream.Stream;

/**
 * Runs what README.md shows: its Java blocks are one run of calls, each with its answer in a comment, and the
 * answers must be those of the class and of the Oracle. Every call, test and class inside must be told of.
 */
public final class ReadmeTest {
    private static final Pattern CALL = Pattern.compile("(?:int (\\w+) = )?rock\\.(\\w+)\\((.*?)\\);\\s*// (-?\\d+)\\b.*");
    private static final int MOST_CALLS = 512;

    private final PoleSets rock = new PoleSets();
    private final Oracle oracle = new Oracle();
    private final Map<String, Object> named = new TreeMap<>();
    private final Set<String> shown = new TreeSet<>();
    private final Set<Integer> statuses = new TreeSet<>();
    private int calls = 0;
    private int wrong = 0;

    public static void main(String[] args) throws Exception {
        Path source = args.length > 0 ? Path.of(args[0]) : Path.of("src/main/java/PoleSets.java");
        Path root = source.toAbsolutePath().normalize().getParent().getParent().getParent().getParent();
        String text = Files.readString(root.resolve("README.md"), StandardCharsets.UTF_8);
        ReadmeTest test = new ReadmeTest();
        test.runBlocks(text);
        test.lookForCalls();
        test.lookForTests(text, root.resolve("src/test/java"));
        test.lookForClasses(text);
        System.out.println(test.wrong == 0 ? test.calls + " calls of README.md answer as it shows"
            : test.wrong + " things of README.md are not so");
        if (test.wrong != 0) {
            System.exit(1);
        }
    }

    private void fail(String why) {
        wrong++;
        System.out.println(why);
    }

    private void runBlocks(String text) throws ReflectiveOperationException {
        boolean inside = false;
        int made = 0;
        for (String line : text.split("\n")) {
            if (line.startsWith("```")) {
                inside = line.equals("```java");
            } else if (inside && line.equals("PoleSets rock = new PoleSets();")) {
                made++;
            } else if (inside && !line.isBlank() && !line.startsWith("//")) {
                runLine(line);
            }
        }
        if (made != 1) {
            fail("a new object is made " + made + " times");
        }
        if (calls > MOST_CALLS) {
            fail("too many calls");
        }
    }

    private void runLine(String line) throws ReflectiveOperationException {
        Matcher m = CALL.matcher(line);
        if (!m.matches()) {
            fail("no call with its answer: " + line);
            return;
        }
        Object[] values = valuesOf(m.group(3));
        long due = Long.parseLong(m.group(4));
        long got = call(rock, m.group(2), values);
        if (got != due) {
            fail(line + " answered " + got);
        }
        if (call(oracle, m.group(2), values) != got || oracle.status() != rock.status()) {
            fail(line + " is otherwise by the Oracle");
        }
        if (m.group(1) != null) {
            named.put(m.group(1), (int) got);
        }
        shown.add(m.group(2));
        if (m.group(2).equals("status")) {
            statuses.add((int) got);
        }
        calls++;
    }

    private Object[] valuesOf(String written) {
        List<Object> values = new ArrayList<>();
        for (String word : written.isBlank() ? new String[0] : written.split(", ")) {
            if (word.equals("true") || word.equals("false")) {
                values.add(word.equals("true"));
            } else {
                values.add(named.containsKey(word) ? named.get(word) : (Object) Integer.parseInt(word));
            }
        }
        return values.toArray();
    }

    private static long call(Object on, String name, Object[] values) throws ReflectiveOperationException {
        for (Method m : on.getClass().getDeclaredMethods()) {
            boolean open = Modifier.isPublic(m.getModifiers());
            if (open && m.getName().equals(name) && m.getParameterCount() == values.length) {
                return ((Number) m.invoke(on, values)).longValue();
            }
        }
        throw new NoSuchMethodException(name + " with " + values.length);
    }

    private void lookForCalls() {
        for (Method m : PoleSets.class.getDeclaredMethods()) {
            if (Modifier.isPublic(m.getModifiers()) && !shown.contains(m.getName())) {
                fail("no call shown of " + m.getName());
            }
        }
        for (int status : new int[] {0, 1, 2, 3, 5}) {
            if (!statuses.contains(status)) {
                fail("no call shown with STATUS " + status);
            }
        }
    }

    private void lookForTests(String text, Path tests) throws IOException {
        try (Stream<Path> files = Files.list(tests)) {
            files.map(file -> file.getFileName().toString().replace(".java", ""))
                .filter(name -> !text.contains("`" + name + "`"))
                .forEach(name -> fail("not told of: " + name));
        }
    }

    private void lookForClasses(String text) {
        for (Class<?> each : PoleSets.class.getDeclaredClasses()) {
            if (!text.contains("`" + each.getSimpleName() + "`")) {
                fail("not told of: " + each.getSimpleName());
            }
        }
    }
}
