import java.io.IOException;
import java.lang.reflect.Method;
import java.lang.reflect.Modifier;
import java.nio.file.Files;
import java.nio.file.Path;
import java.util.Arrays;
import java.util.HashMap;
import java.util.List;
import java.util.Map;
import java.util.Set;
import java.util.TreeSet;
import java.util.regex.Matcher;
import java.util.regex.Pattern;
import java.util.stream.Collectors;
import java.util.stream.Stream;

/**
 * README.md: its lines of Java are read and done as they stand there, and each call has to answer
 * what stands behind it. Every call of the class has to be shown, every test to be in the table.
 */
public final class ReadmeTest {
    private static final Path README = Path.of("README.md");
    private static final Path TESTS = Path.of("src/test/java");
    private static final String NEW_OBJECT = "ClockZones x = new ClockZones();";
    private static final String CONSTANT = "ClockZones.";
    /** A call, perhaps with a name for its answer, and behind it the answer: a number or a constant. */
    private static final Pattern CALL = Pattern.compile("(?:int (\\w+) = )?x\\.(\\w+)\\(([^()]*)\\);"
        + " +// (-?\\d+|NONE|UNKNOWN|OUTSIDE|STATE|FULL)(?:: .+)?");

    /** The names that README.md has given to answers so far. */
    private final Map<String, Integer> named = new HashMap<>();
    private final Set<String> shown = new TreeSet<>();
    /** What README.md says is due from the second program too. */
    private final Object[] programs = {new ClockZones(), new PlainModel()};

    public static void main(String[] args) throws Exception {
        String readme = Files.readString(README);
        List<String> lines = javaLines(readme);
        Due.hold("the first line makes the object", !lines.isEmpty() && lines.get(0).equals(NEW_OBJECT));
        ReadmeTest test = new ReadmeTest();
        for (String line : lines.subList(Math.min(1, lines.size()), lines.size())) {
            test.follow(line);
        }
        test.everyCallIsShown();
        everyTestIsListed(readme);
        Due.done();
    }

    private static List<String> javaLines(String readme) {
        return Pattern.compile("(?ms)^```java\n(.*?)^```$").matcher(readme).results()
            .flatMap(block -> block.group(1).lines())
            .filter(line -> !line.isBlank()).collect(Collectors.toList());
    }

    private void follow(String line) throws ReflectiveOperationException {
        Matcher call = CALL.matcher(line);
        Due.hold("README.md shows a call and its answer: " + line, call.matches());
        if (!call.matches()) {
            return;
        }
        Object[] given = numbers(call.group(3));
        Class<?>[] types = new Class<?>[given.length];
        Arrays.fill(types, int.class);
        long due = number(call.group(4));
        for (Object x : programs) {
            Method method = x.getClass().getDeclaredMethod(call.group(2), types);
            Due.be("README.md, " + x.getClass().getName() + ": " + line + " --",
                ((Number) method.invoke(x, given)).longValue(), due);
        }
        shown.add(call.group(2));
        if (call.group(1) != null) {
            named.put(call.group(1), (int) due);
        }
    }

    private Object[] numbers(String given) throws ReflectiveOperationException {
        String[] words = given.isEmpty() ? new String[0] : given.split(", ");
        Object[] numbers = new Object[words.length];
        for (int i = 0; i < words.length; i++) {
            if (words[i].startsWith(CONSTANT)) {
                numbers[i] = (int) number(words[i].substring(CONSTANT.length()));
            } else {
                numbers[i] = named.containsKey(words[i]) ? named.get(words[i]) : Integer.valueOf(words[i]);
            }
        }
        return numbers;
    }

    private static long number(String word) throws ReflectiveOperationException {
        return word.matches("[A-Z]+") ? ClockZones.class.getField(word).getInt(null) : Long.parseLong(word);
    }

    private void everyCallIsShown() {
        for (Method method : ClockZones.class.getDeclaredMethods()) {
            if (Modifier.isPublic(method.getModifiers())) {
                Due.hold("README.md shows " + method.getName(), shown.contains(method.getName()));
            }
        }
    }

    private static void everyTestIsListed(String readme) throws IOException {
        Set<String> listed = Pattern.compile("(?m)^\\| `(\\w+Test)` \\|").matcher(readme).results()
            .map(row -> row.group(1)).collect(Collectors.toCollection(TreeSet::new));
        Set<String> tests = new TreeSet<>();
        try (Stream<Path> files = Files.list(TESTS)) {
            files.map(file -> file.getFileName().toString()).filter(name -> name.endsWith("Test.java"))
                .forEach(name -> tests.add(name.replace(".java", "")));
        }
        Due.hold("the table of README.md has all tests: " + listed + " of " + tests, listed.equals(tests));
    }
}
