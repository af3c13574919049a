import java.io.File;
import java.io.IOException;
import java.nio.file.Files;
import java.nio.file.Path;
import java.util.ArrayList;
import java.util.List;
import java.util.concurrent.Callable;
import java.util.concurrent.ExecutorService;
import java.util.concurrent.Executors;
import java.util.concurrent.Future;
import java.util.concurrent.TimeUnit;

/**
 * Breaks the class in one place at a time, and looks whether the test of the sentence that is broken fails. It is run by
 * hand, for what it changes are words of the class's text: java src/breaks/Breaks.java
 *
 * breaks.txt has, for each break, a line with the sentence (= Promise 2: BAD.), and what is put in place of what
 * (- and + lines in turn; -2 tells that the second such place is meant, where there are several).
 */
public final class Breaks {
    private static final Path SOURCE = Path.of("src/main/java/NodBench.java");
    private static final Path LIST = Path.of("src/breaks/breaks.txt");

    private record Change(String old, int which, String now) {
    }

    private record Break(String sentence, List<Change> changes) {
        @Override
        public String toString() {
            return sentence + " <- " + changes.get(0).now();
        }
    }

    private Breaks() {
    }

    public static void main(String[] args) throws Exception {
        Path dir = Files.createTempDirectory("breaks");
        Path tests = dir.resolve("tests");
        run(tests, "javac", "--release", "17", "-d", tests.toString(), SOURCE.toString(), "src/test/java/Due.java",
            "src/test/java/Edges.java", "src/test/java/EdgeTest.java", "src/test/java/Refusals.java", "src/test/java/FaceEdges.java",
            "src/test/java/TermsEdges.java", "src/test/java/DayEdges.java", "src/test/java/WouldBeEdges.java",
            "src/test/java/ShopCallEdges.java", "src/test/java/DayCallEdges.java", "src/test/java/RestCallEdges.java");
        String source = Files.readString(SOURCE);
        List<Break> breaks = read();
        ExecutorService workers = Executors.newFixedThreadPool(Runtime.getRuntime().availableProcessors());
        List<Future<String>> answers = new ArrayList<>();
        for (int i = 0; i < breaks.size(); i++) {
            Break one = breaks.get(i);
            Path own = dir.resolve("b" + i);
            answers.add(workers.submit((Callable<String>) () -> verdict(one, source, own, tests)));
        }
        int missed = 0;
        for (int i = 0; i < breaks.size(); i++) {
            String answer = answers.get(i).get();
            if (!answer.isEmpty()) {
                missed++;
                System.out.println(answer + ": " + breaks.get(i));
            }
        }
        workers.shutdown();
        missed += unbroken(breaks, run(tests, "java", "-Dlist=all", "-cp", tests.toString(), "EdgeTest"));
        System.out.println(breaks.size() + " breaks, " + missed + " missed");
        System.exit(missed == 0 ? 0 : 1);
    }

    private static List<Break> read() throws IOException {
        List<Break> breaks = new ArrayList<>();
        String sentence = "";
        String old = "";
        int which = 1;
        boolean isMore = false;
        for (String line : Files.readAllLines(LIST)) {
            if (line.startsWith("= ")) {
                sentence = line.substring(2);
                isMore = false;
            } else if (line.startsWith("-")) {
                which = line.charAt(1) == ' ' ? 1 : line.charAt(1) - '0';
                old = line.substring(line.indexOf(' ') + 1);
                isMore = line.startsWith("-& ");
                which = isMore ? 1 : which;
            } else if (line.startsWith("+")) {
                Change change = new Change(old, which, line.length() > 2 ? line.substring(2) : "");
                if (isMore) {
                    breaks.get(breaks.size() - 1).changes().add(change);
                } else {
                    breaks.add(new Break(sentence, new ArrayList<>(List.of(change))));
                }
            }
        }
        return breaks;
    }

    /** Nothing, if the sentence's own test fails. */
    private static String verdict(Break one, String source, Path dir, Path tests) throws IOException, InterruptedException {
        String text = source;
        for (Change change : one.changes()) {
            int at = -1;
            for (int i = 0; i < change.which(); i++) {
                at = text.indexOf(change.old(), at + 1);
                if (at < 0) {
                    return "THE TEXT HAS NO '" + change.old() + "'";
                }
            }
            text = text.substring(0, at) + change.now() + text.substring(at + change.old().length());
        }
        Files.createDirectories(dir);
        Path file = dir.resolve("NodBench.java");
        Files.writeString(file, text);
        String log = run(dir, "javac", "--release", "17", "-d", dir.toString(), file.toString());
        if (!log.isEmpty()) {
            return "DOES NOT COMPILE " + log;
        }
        String path = dir + File.pathSeparator + tests;
        String lines = run(dir, "java", "-XX:TieredStopAtLevel=1", "-cp", path, "EdgeTest");
        String[] parts = one.sentence().split(": ", 2);
        return lines.contains(parts[0] + ", '" + parts[1] + "': ") ? "" : "IT HOLDS";
    }

    private static String run(Path dir, String... command) throws IOException, InterruptedException {
        Files.createDirectories(dir);
        Path log = dir.resolve("log.txt");
        Process process = new ProcessBuilder(command).redirectErrorStream(true).redirectOutput(log.toFile()).start();
        if (!process.waitFor(60, TimeUnit.SECONDS)) {
            process.destroyForcibly();
        }
        return Files.readString(log);
    }

    /** How many of the sentences that are listed have a test, but no break. */
    private static int unbroken(List<Break> breaks, String lines) {
        int missed = 0;
        for (String line : lines.split("\n")) {
            boolean isBroken = breaks.stream().anyMatch(b -> line.equals("= " + b.sentence()));
            if (line.startsWith("= ") && !isBroken) {
                missed++;
                System.out.println("no break" + line);
            }
        }
        return missed;
    }
}
