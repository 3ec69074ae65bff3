import java.io.IOException;
import java.lang.reflect.Method;
import java.lang.reflect.Modifier;
import java.nio.file.DirectoryStream;
import java.nio.file.Files;
import java.nio.file.Path;
import java.util.Set;
import java.util.TreeSet;
import java.util.regex.Matcher;
import java.util.regex.Pattern;

/** Makes the calls that README.md shows, in its order, and holds each answer against the one shown there. */
public final class ReadmeTest {
    private static final Path README = Path.of("README.md");
    private static final Path TESTS = Path.of("src/test/java");
    private static final String NEW = "HalfByFive x = new HalfByFive();";
    private static final Pattern CALL = Pattern.compile("x\\.(\\w+)\\(([-0-9, ]*)\\); +// (-?[0-9]+)(: .+)?");
    private static final Pattern TYPED =
        Pattern.compile("for \\(char c : \"([^\"\\\\]*)\"\\.toCharArray\\(\\)\\) x\\.type\\(c\\);");
    private static final Due due = new Due();

    private final Set<String> shown = new TreeSet<>();
    private HalfByFive x = null;

    public static void main(String[] args) throws IOException, ReflectiveOperationException {
        String text = Files.readString(README);
        new ReadmeTest().calls(text);
        testsAreNamed(text);
        due.end();
    }

    private void calls(String text) throws ReflectiveOperationException {
        boolean inside = false;
        int number = 0;
        for (String line : text.split("\n")) {
            number++;
            due.in("README.md, line " + number);
            if (line.startsWith("```")) inside = line.equals("```java");
            else if (inside && !line.isBlank()) statement(line);
        }
        due.holds("README.md shows calls", x != null);
        for (Method m : HalfByFive.class.getDeclaredMethods()) {
            if (Modifier.isPublic(m.getModifiers())) due.holds("shows " + m.getName(), shown.contains(m.getName()));
        }
    }

    private void statement(String line) throws ReflectiveOperationException {
        Matcher call = CALL.matcher(line);
        Matcher typed = TYPED.matcher(line);
        if (line.equals(NEW)) {
            x = new HalfByFive();
        } else if (x == null) {
            due.holds("'" + line + "' comes behind a new object", false);
        } else if (typed.matches()) {
            shown.add("type");
            Due.add(x, typed.group(1));
        } else if (call.matches()) {
            shown.add(call.group(1));
            due.is(line, answer(call.group(1), call.group(2)), Long.parseLong(call.group(3)));
        } else {
            due.holds("'" + line + "' is a call with its answer", false);
        }
    }

    private long answer(String name, String written) throws ReflectiveOperationException {
        String[] numbers = written.isBlank() ? new String[0] : written.split(", *");
        Object[] arguments = new Object[numbers.length];
        Class<?>[] types = new Class<?>[numbers.length];
        for (int i = 0; i < numbers.length; i++) {
            arguments[i] = Integer.parseInt(numbers[i]);
            types[i] = int.class;
        }
        return ((Number) HalfByFive.class.getMethod(name, types).invoke(x, arguments)).longValue();
    }

    /** That the page names each test there is, and none that there is not. */
    private static void testsAreNamed(String text) throws IOException {
        due.in("README.md");
        Set<String> there = new TreeSet<>();
        try (DirectoryStream<Path> files = Files.newDirectoryStream(TESTS, "*Test.java")) {
            for (Path file : files) there.add(file.getFileName().toString().replace(".java", ""));
        }
        Set<String> named = new TreeSet<>();
        Matcher m = Pattern.compile("(?m)^- `(\\w+Test)`:").matcher(text);
        while (m.find()) named.add(m.group(1));
        due.holds("tests there are " + there + ", named are " + named, there.equals(named));
    }
}
