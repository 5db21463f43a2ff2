import java.io.IOException;
import java.lang.reflect.Method;
import java.lang.reflect.Modifier;
import java.nio.file.Files;
import java.nio.file.Path;
import java.util.List;
import java.util.Set;
import java.util.TreeSet;
import java.util.regex.Matcher;
import java.util.regex.Pattern;
import java.util.stream.Collectors;
import java.util.stream.Stream;

/** README.md: its example is answered as it says, and it names every call and every test. */
public final class ReadmeTest {
    private static final Pattern TOLD = Pattern.compile("tell\\(x, \"([^\"]*)\"\\);");
    private static final Pattern CALLED = Pattern.compile("x\\.(\\w+\\([^)]*\\)); +// (-?\\w+).*");

    public static void main(String[] args) throws IOException {
        List<String> lines = Files.readAllLines(Path.of("README.md"));
        example(lines);
        String page = String.join("\n", lines);
        calls(page);
        tests(page);
        Due.end("ReadmeTest");
    }

    private static void example(List<String> lines) {
        Run x = Run.on("README.md");
        int rows = 0;
        for (String line : lines.subList(lines.indexOf("SecondBest x = new SecondBest();") + 1, lines.size())) {
            Matcher told = TOLD.matcher(line);
            Matcher called = CALLED.matcher(line);
            if (told.matches()) {
                x.feed(told.group(1));
            } else if (called.matches()) {
                x.rows(called.group(1) + " = " + called.group(2));
                rows++;
            } else {
                Due.due("where the example ends: " + line, line.equals("```") ? 1 : 0, 1);
                break;
            }
        }
        Due.due("calls of the example: " + rows, rows > 15 ? 1 : 0, 1);
    }

    private static void calls(String page) {
        for (Method m : SecondBest.class.getDeclaredMethods()) {
            if (!Modifier.isPublic(m.getModifiers())) {
                continue;
            }
            Matcher named = Pattern.compile("`" + m.getName() + "\\(([^)]*)\\)`").matcher(page);
            boolean isNamed = named.find();
            Due.due("README.md names " + m.getName(), isNamed ? 1 : 0, 1);
            if (isNamed) {
                int takes = named.group(1).isEmpty() ? 0 : named.group(1).split(",").length;
                Due.due("as many numbers in " + named.group(), takes, m.getParameterCount());
            }
        }
    }

    private static void tests(String page) throws IOException {
        Set<String> named = new TreeSet<>();
        Matcher row = Pattern.compile("\\| `(\\w+Test)` \\|").matcher(page);
        while (row.find()) {
            named.add(row.group(1));
        }
        try (Stream<Path> files = Files.list(Path.of("src/test/java"))) {
            Set<String> there = files.map(file -> file.getFileName().toString()).filter(name -> name.endsWith("Test.java"))
                .map(name -> name.replace(".java", "")).collect(Collectors.toCollection(TreeSet::new));
            Due.due("tests named " + named + ", there are " + there, named.equals(there) ? 1 : 0, 1);
        }
    }
}
