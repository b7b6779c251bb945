import java.io.IOException;
import java.lang.reflect.Method;
import java.lang.reflect.Modifier;
import java.nio.file.Files;
import java.nio.file.Path;
import java.util.HashMap;
import java.util.List;
import java.util.Map;
import java.util.regex.Matcher;
import java.util.regex.Pattern;
import java.util.stream.Stream;

// What README.md says about the class and its tests is so. Run from the project's root.
public final class ReadmeTest {
    private static final Path README = Path.of("README.md");
    private static final Path TESTS = Path.of("src/test/java");
    private static final String FIRST_LINE = "LotBooks books = new LotBooks();";
    private static final Pattern CALL =
            Pattern.compile("(?:int (\\w+) = )?books\\.(\\w+)\\((.*?)\\); +// ([^\\s:]+)(: .*)?");
    private static final Report REPORT = new Report();

    public static void main(String[] args) throws IOException {
        String text = Files.readString(README);
        makeTheCalls(text.substring(text.indexOf("```java\n") + 8).split("\n```")[0].split("\n"));
        namesEveryCall(text);
        namesEveryTest(text);
        REPORT.end();
    }

    private static void makeTheCalls(String[] lines) {
        Script books = new Script();
        Map<String, String> variables = new HashMap<>();
        REPORT.holds("the example does not make books first", lines[0].equals(FIRST_LINE));
        for (String line : List.of(lines).subList(1, lines.length)) {
            Matcher call = CALL.matcher(line);
            if (call.matches()) {
                long got = books.call(asScript(call, variables));
                REPORT.due(line, got, Script.valueOf(call.group(4)));
                variables.put(call.group(1), Long.toString(got));
            } else {
                REPORT.holds("a line without a call and its answer: " + line, line.isBlank());
            }
        }
    }

    private static String asScript(Matcher call, Map<String, String> variables) {
        StringBuilder text = new StringBuilder(call.group(2));
        for (String argument : call.group(3).split(", ")) {
            String word = argument.replace("LotBooks.", "");
            text.append(" ").append(variables.getOrDefault(word, word));
        }
        return text.toString().trim();
    }

    private static void namesEveryCall(String text) {
        for (Method method : LotBooks.class.getDeclaredMethods()) {
            if (Modifier.isPublic(method.getModifiers())) {
                REPORT.holds("the example does not call " + method.getName(), text.contains("books." + method.getName() + "("));
                REPORT.holds("the table does not have " + method.getName(), text.contains("`" + method.getName() + "("));
            }
        }
    }

    private static void namesEveryTest(String text) throws IOException {
        REPORT.holds("it does not say how to run the tests", text.contains("```sh\n.ci/run\n```"));
        try (Stream<Path> files = Files.list(TESTS)) {
            files.forEach(file -> {
                String name = file.getFileName().toString().replace(".java", "");
                REPORT.holds("it does not name " + name, text.contains("- `" + name + "` "));
            });
        }
    }
}
