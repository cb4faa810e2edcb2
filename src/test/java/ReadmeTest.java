import java.io.IOException;
import java.lang.reflect.Method;
import java.lang.reflect.Modifier;
import java.nio.charset.StandardCharsets;
import java.nio.file.Files;
import java.nio.file.Path;
import java.util.Set;
import java.util.TreeSet;
import java.util.regex.Matcher;
import java.util.regex.Pattern;
import java.util.stream.Stream;

/** What README.md says holds: its answers are the class's, and it names each call and each test. */
public final class ReadmeTest {
    private static final Pattern CALL = Pattern.compile("bench\\.(\\w+)\\(([^)]*)\\); *// ([^:\\s]+)(:.*)?");

    private final Check check = new Check();
    private final String text;

    private ReadmeTest(String text) {
        this.text = text;
    }

    private static Method methodOf(String name, int parts) {
        for (Method m : MeetingRanks.class.getDeclaredMethods()) {
            boolean isPublic = Modifier.isPublic(m.getModifiers());
            if (isPublic && m.getName().equals(name) && m.getParameterCount() == parts) {
                return m;
            }
        }
        return null;
    }

    private static String[] split(String list) {
        return list.isEmpty() ? new String[0] : list.split(", ");
    }

    private static Object[] given(Method m, String[] parts) {
        Object[] given = new Object[parts.length];
        for (int i = 0; i < parts.length; i++) {
            boolean isLong = m.getParameterTypes()[i] == long.class;
            given[i] = isLong ? (Object) Long.valueOf(parts[i]) : (Object) Integer.valueOf(parts[i]);
        }
        return given;
    }

    private void answersHold() throws ReflectiveOperationException {
        Matcher block = Pattern.compile("(?s)```java\n(.*?)```").matcher(text);
        check.isTrue("there is an example", block.find());
        MeetingRanks bench = new MeetingRanks();
        String[] lines = block.group(1).split("\n");
        check.isTrue("it begins with a new object", lines[0].startsWith("MeetingRanks bench = new MeetingRanks();"));
        for (int i = 1; i < lines.length; i++) {
            Matcher call = CALL.matcher(lines[i]);
            check.isTrue("a call with its answer: " + lines[i], call.matches());
            String[] parts = split(call.group(2));
            Method m = methodOf(call.group(1), parts.length);
            check.isTrue("the class has such a call: " + lines[i], m != null);
            String got = String.valueOf(m.invoke(bench, given(m, parts)));
            check.isTrue(lines[i] + " answered " + got, got.equals(call.group(3)));
        }
    }

    private void eachCallIsNamed() {
        Set<String> named = new TreeSet<>();
        Matcher calls = Pattern.compile("`(\\w+)\\(([^)`]*)\\)`").matcher(text);
        while (calls.find()) {
            Method m = methodOf(calls.group(1), split(calls.group(2)).length);
            check.isTrue("the class has " + calls.group(), m != null);
            named.add(calls.group(1));
        }
        for (Method m : MeetingRanks.class.getDeclaredMethods()) {
            if (Modifier.isPublic(m.getModifiers())) {
                check.isTrue("the page names " + m.getName(), named.contains(m.getName()));
            }
        }
    }

    private void eachTestIsNamed(Path tests) throws IOException {
        Set<String> found = new TreeSet<>();
        try (Stream<Path> files = Files.list(tests)) {
            files.map(f -> f.getFileName().toString()).filter(f -> f.endsWith("Test.java"))
                    .forEach(f -> found.add(f.replace(".java", "")));
        }
        Set<String> named = new TreeSet<>();
        Matcher tested = Pattern.compile("`(\\w+Test)`").matcher(text);
        while (tested.find()) {
            named.add(tested.group(1));
        }
        check.isTrue("tests " + found + ", of which the page names " + named, named.equals(found));
    }

    /** Paths of this checkout; those that begin with ../ are not its own. */
    private void eachPathIsThere(Path root) {
        Matcher paths = Pattern.compile("(?<![\\w./])(src/[\\w/]+\\.java|\\.ci/\\w+)").matcher(text);
        int found = 0;
        while (paths.find()) {
            found++;
            check.isTrue(paths.group(1) + " is there", Files.exists(root.resolve(paths.group(1))));
        }
        check.isTrue("paths were found", found > 1);
    }

    public static void main(String[] args) throws IOException, ReflectiveOperationException {
        Path main = Path.of(args.length > 0 ? args[0] : "src/main/java/MeetingRanks.java").toAbsolutePath();
        Path root = main.getParent().getParent().getParent().getParent();
        ReadmeTest t = new ReadmeTest(Files.readString(root.resolve("README.md"), StandardCharsets.UTF_8));
        t.answersHold();
        t.eachCallIsNamed();
        t.eachTestIsNamed(root.resolve("src/test/java"));
        t.eachPathIsThere(root);
        t.check.end();
    }
}
