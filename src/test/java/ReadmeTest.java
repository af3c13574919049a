import java.io.ByteArrayOutputStream;
import java.io.IOException;
import java.io.PrintStream;
import java.lang.reflect.Field;
import java.lang.reflect.Method;
import java.lang.reflect.Modifier;
import java.nio.charset.StandardCharsets;
import java.nio.file.Files;
import java.nio.file.Path;
import java.util.List;
import java.util.regex.Matcher;
import java.util.regex.Pattern;
import java.util.stream.Collectors;
import java.util.stream.Stream;

/** README.md shows the Example as it is and what it prints, and names each call, each refusal and each test. */
final class ReadmeTest {
    private static final Path TESTS = Path.of("src/test/java");
    private static final Due due = new Due();

    public static void main(String[] args) throws IOException, ReflectiveOperationException {
        String text = Files.readString(Path.of("README.md"));
        example(text);
        for (Method call : NodBench.class.getDeclaredMethods()) {
            if (Modifier.isPublic(call.getModifiers())) {
                call(text, call);
            }
        }
        for (Field refusal : NodBench.class.getFields()) {
            String row = "| `" + refusal.getName() + "` (" + refusal.getInt(null) + ") |";
            due.isTrue("README.md has the row " + row, text.contains("\n" + row));
        }
        for (String test : tests()) {
            due.isTrue("README.md tells of " + test, text.contains("`" + test + "`"));
        }
        due.isTrue("README.md tells how to run the tests", text.contains("\n    .ci/run\n"));
        due.isTrue("README.md tells of new things", text.contains("no call makes anything new"));
        nothingNew(Files.readAllLines(Path.of("src/main/java/NodBench.java")));
        due.close("ReadmeTest");
    }

    private static void example(String text) throws IOException {
        String example = Files.readString(TESTS.resolve("Example.java"));
        due.isTrue("README.md shows Example.java", text.contains("```java\n" + example + "```\n"));
        due.isTrue("README.md shows what it prints", text.contains("```text\n" + printed() + "```\n"));
    }

    private static String printed() {
        PrintStream screen = System.out;
        ByteArrayOutputStream bytes = new ByteArrayOutputStream();
        PrintStream paper = new PrintStream(bytes, true, StandardCharsets.UTF_8);
        System.setOut(paper);
        try {
            Example.main(new String[0]);
        } finally {
            System.setOut(screen);
        }
        return bytes.toString(StandardCharsets.UTF_8).replace(System.lineSeparator(), "\n");
    }

    /** One row of the table is about the call, with as many names in its brackets as it takes. */
    private static void call(String text, Method call) {
        Matcher rows = Pattern.compile("(?m)^\\| `" + call.getName() + "\\(([^)]*)\\)` \\| .+ \\|$").matcher(text);
        int found = 0;
        while (rows.find()) {
            found++;
            int names = rows.group(1).isEmpty() ? 0 : rows.group(1).split(", ").length;
            due.is("names in the row of " + call.getName(), names, call.getParameterCount());
        }
        due.is("rows of " + call.getName(), found, 1);
    }

    /** What is made is made for a field that stays, that is with the object. */
    private static void nothingNew(List<String> source) {
        for (String line : source) {
            boolean isNew = line.matches(".*\\bnew\\b.*") && !line.trim().matches("[/*].*");
            due.isTrue("made with the object: " + line, !isNew || line.matches(" +(private )?final \\S+ \\w+ = new [^;]+;"));
        }
    }

    private static List<String> tests() throws IOException {
        try (Stream<Path> files = Files.list(TESTS)) {
            return files.map(f -> f.getFileName().toString()).filter(name -> name.endsWith("Test.java"))
                .map(name -> name.replace(".java", "")).sorted().collect(Collectors.toList());
        }
    }
}
