import java.io.IOException;
import java.nio.file.Files;
import java.nio.file.Path;
import java.util.List;
import java.util.regex.MatchResult;
import java.util.regex.Matcher;
import java.util.regex.Pattern;
import java.util.stream.Collectors;
import java.util.stream.Stream;

/** README.md is as the class and its tests are: its examples answer so, and it names each call and each test. */
public final class ReadmeTest {
    private static final Check CHECK = new Check("ReadmeTest");
    private static final Calls CALLS = new Calls(CHECK);
    private static final Path TESTS = Path.of("src/test/java");
    private static final Pattern EXAMPLE = Pattern.compile("(?s)```java\n(.*?)```");
    private static final Pattern RULES = Pattern.compile("(?s)```text\n(.*?)```");
    private static final Pattern MAKING = Pattern.compile("ManyEyes eyes = new ManyEyes\\((\\d+), (\\d+)\\);");
    private static final Pattern ASKING = Pattern.compile("eyes\\.(\\w+\\([^)]*\\)); +// (-?\\w+)(:.*)?");
    private static final Pattern FACE = Pattern.compile("(?m)^    public (?:int|boolean) (\\w+)\\((.*)\\) \\{$");

    public static void main(String[] args) throws IOException {
        String page = Files.readString(Path.of("README.md"));
        List<String> called = examples(page);
        rules(page);
        String text = Files.readString(Path.of("src/main/java/ManyEyes.java"));
        List<MatchResult> face = FACE.matcher(text).results().toList();
        CHECK.due("methods of the face", face.size(), 26);
        for (MatchResult method : face) {
            String told = method.group(1) + "(" + method.group(2).replaceAll("(int|boolean) ", "") + ")";
            CHECK.due("the page names " + told, page.contains("| `" + told + "` | "), true);
            CHECK.due("an example calls " + method.group(1), called.contains(method.group(1)), true);
        }
        for (String name : tests()) {
            CHECK.due("the page names " + name, page.contains("| `" + name + "` | "), true);
        }
        CHECK.due("the page names no other test", rowsOfTests(page), tests().size());
        CHECK.end();
    }

    /** The names of all that the examples call. */
    private static List<String> examples(String page) {
        List<String> blocks = EXAMPLE.matcher(page).results().map(found -> found.group(1)).toList();
        CHECK.due("two examples", blocks.size(), 2);
        return blocks.stream().flatMap(ReadmeTest::callsOf).collect(Collectors.toList());
    }

    private static Stream<String> callsOf(String block) {
        List<String> lines = block.lines().toList();
        Matcher making = MAKING.matcher(lines.get(0));
        CHECK.due("an example begins with a new object", making.matches(), true);
        ManyEyes eyes = new ManyEyes(Integer.parseInt(making.group(1)), Integer.parseInt(making.group(2)));
        for (String line : lines.subList(1, lines.size())) {
            Matcher asking = ASKING.matcher(line);
            CHECK.due("a call with its answer: " + line, asking.matches(), true);
            CALLS.answers(eyes, inDecimals(asking.group(1)) + " = " + asking.group(2));
        }
        return lines.stream().skip(1).map(line -> line.substring(line.indexOf('.') + 1, line.indexOf('(')));
    }

    private static void rules(String page) {
        List<String> texts = RULES.matcher(page).results().map(found -> found.group(1)).toList();
        CHECK.due("one text of a rule", texts.size(), 1);
        for (String text : texts) {
            ManyEyes eyes = new ManyEyes(4, 4);
            CHECK.due("rule " + text, Check.rule(eyes, text), 0);
            CHECK.due("it flies", eyes.fly(0, 8, 8, 8, 60, 0) > 0, true);
        }
    }

    private static String inDecimals(String call) {
        return Pattern.compile("0x[0-9a-f]+").matcher(call.replace("ManyEyes.NONE", "NONE"))
            .replaceAll(hex -> Long.toString(Long.decode(hex.group())));
    }

    private static List<String> tests() throws IOException {
        try (Stream<Path> files = Files.list(TESTS)) {
            return files.map(file -> file.getFileName().toString()).filter(name -> name.endsWith("Test.java"))
                .map(name -> name.replace(".java", "")).sorted().toList();
        }
    }

    private static long rowsOfTests(String page) {
        return page.lines().filter(line -> line.matches("\\| `\\w+Test` \\| .*")).count();
    }
}
