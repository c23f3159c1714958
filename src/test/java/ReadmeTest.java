import java.io.IOException;
import java.io.UncheckedIOException;
import java.nio.file.Files;
import java.nio.file.Path;
import java.util.Arrays;
import java.util.List;
import java.util.Set;
import java.util.TreeSet;
import java.util.regex.Matcher;
import java.util.regex.Pattern;
import java.util.stream.Stream;

/** What README.md tells: its examples are run and answer as they say; it names all calls and all tests. Run at the top. */
public final class ReadmeTest {
    private static final Check check = new Check();
    private static final Pattern NEW = Pattern.compile("SpringBeads x = new SpringBeads\\(\\);");
    private static final Pattern CALL = Pattern.compile("x\\.(\\w+)\\(([-\\d, ]*)\\); +// (-?\\d+)(: .+)?");
    private static final Pattern FEED = Pattern.compile("for \\(char c : \"([^\"]*)\"\\.toCharArray\\(\\)\\) \\{");

    private static Subject x = null;
    private static int examples = 0;

    public static void main(String[] args) throws IOException {
        String readme = Files.readString(Path.of("README.md"));
        examples(readme);
        calls(readme);
        tests(readme);
        paths(readme);
        check.end();
    }

    private static void examples(String readme) {
        Matcher block = Pattern.compile("(?s)```java\n(.*?)```").matcher(readme);
        while (block.find()) {
            x = null;
            List<String> lines = block.group(1).lines().toList();
            for (int i = 0; i < lines.size(); i++) {
                i += example(lines, i);
            }
        }
        check.holds("there are examples", examples > 50);
    }

    /** Runs the example of a line; answers how many lines more it has. */
    private static int example(List<String> lines, int i) {
        String line = lines.get(i);
        Matcher call = CALL.matcher(line);
        Matcher feed = FEED.matcher(line);
        if (NEW.matcher(line).matches()) {
            x = new Subject();
        } else if (x != null && call.matches()) {
            int[] numbers = Arrays.stream(call.group(2).split(", ")).filter(n -> !n.isEmpty()).mapToInt(Integer::parseInt).toArray();
            check.due("README.md: " + line, x.ask(call.group(1), numbers), Integer.parseInt(call.group(3)));
            examples++;
        } else if (x != null && feed.matches() && lines.subList(i + 1, i + 3).equals(List.of("    x.feed(c);", "}"))) {
            x.fed(feed.group(1));
            return 2;
        } else {
            check.holds("an example that can be run: " + line, false);
        }
        return 0;
    }

    private static void calls(String readme) {
        for (var m : SpringBeads.class.getMethods()) {
            if (m.getDeclaringClass() == SpringBeads.class) {
                check.holds("README.md tells of " + m.getName(), readme.contains("`" + m.getName() + "`"));
            }
        }
        for (String answer : List.of("`BAD` -1", "`STATE` -2", "`FULL` -3", "`NONE` -4")) {
            check.holds("README.md tells of " + answer, readme.contains(answer));
        }
    }

    private static void tests(String readme) throws IOException {
        Set<String> told = new TreeSet<>();
        Matcher row = Pattern.compile("(?m)^\\| (\\w+Test) \\|").matcher(readme);
        while (row.find()) {
            told.add(row.group(1));
        }
        Set<String> there = new TreeSet<>();
        try (Stream<Path> files = Files.list(Path.of("src/test/java"))) {
            files.map(file -> file.getFileName().toString()).filter(name -> name.endsWith("Test.java"))
                    .forEach(name -> there.add(name.substring(0, name.length() - 5)));
        } catch (UncheckedIOException e) {
            check.holds("the tests can be listed: " + e, false);
        }
        check.holds("README.md tells of the tests " + there + ", not " + told, told.equals(there));
    }

    private static void paths(String readme) {
        Matcher path = Pattern.compile("`([\\w./]*/[\\w./]+)`").matcher(readme);
        int paths = 0;
        while (path.find()) {
            paths++;
            check.holds(path.group(1) + " is there", Files.exists(Path.of(path.group(1))));
        }
        check.holds("paths are told", paths > 3);
        check.holds(".ci/run can be run", Files.isExecutable(Path.of(".ci/run")));
    }
}
