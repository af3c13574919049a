import java.io.IOException;
import java.nio.file.Files;
import java.nio.file.Path;
import java.util.BitSet;
import java.util.LinkedHashMap;
import java.util.Map;
import java.util.function.Consumer;

/**
 * The document's sentences, each with a test of its own. Each is quoted word for word, so that it is known which one fails,
 * and so that a sentence that nobody quotes is told as wrong.
 */
final class Edges {
    private static final Path DOCUMENT = Path.of("../shared/DOC.md");

    private final Due due = new Due();
    private final Map<String, String> texts = new LinkedHashMap<>();
    private final Map<String, BitSet> covered = new LinkedHashMap<>();
    private String section = "";
    /** src/breaks/Breaks.java asks for all sentences. */
    private final boolean isListed = System.getProperty("list") != null;

    Edges() throws IOException {
        if (!Files.exists(DOCUMENT)) {
            System.out.println("There is no " + DOCUMENT + ": the calls are tested, but not whether it says so.");
            return;
        }
        String[] parts = Files.readString(DOCUMENT).split("(?m)^## ");
        for (int i = 1; i < parts.length; i++) {
            int end = parts[i].indexOf('\n');
            String title = parts[i].substring(0, end);
            String text = parts[i].substring(end).replaceAll("```\\w*", " ");
            if (title.startsWith("Promise")) {
                text = text.replaceFirst("`[^`]*`:", " ");
                title = title.replaceFirst(":.*", "");
            }
            texts.put(title, text.replaceAll("\\s+", " "));
            covered.put(title, new BitSet());
        }
    }

    void section(String title) {
        due.isTrue("the document has " + title, texts.isEmpty() || texts.containsKey(title));
        section = title;
    }

    /** Words that ask for nothing. */
    void heading(String words) {
        cover(words);
    }

    /** A sentence, and its test. */
    void says(String words, Consumer<Due> test) {
        cover(words);
        if (isListed) {
            System.out.println("= " + section + ": " + words);
        }
        due.about(section + ", '" + words + "': ");
        int before = due.seen();
        try {
            test.accept(due);
        } catch (RuntimeException e) {
            due.isTrue("nothing is thrown, but was " + e, false);
        }
        due.isTrue("it has a test", due.seen() > before);
        due.about("");
    }

    private void cover(String words) {
        if (!texts.containsKey(section)) {
            return;
        }
        String text = texts.get(section);
        int at = text.indexOf(words);
        while (at >= 0 && covered.get(section).get(at)) {
            at = text.indexOf(words, at + 1);
        }
        due.isTrue(section + " says '" + words + "'", at >= 0);
        if (at >= 0) {
            covered.get(section).set(at, at + words.length());
        }
    }

    /** What stands between the sentences that were quoted has to be nothing. */
    void close(String name) {
        for (Map.Entry<String, String> entry : texts.entrySet()) {
            String title = entry.getKey();
            StringBuilder left = new StringBuilder();
            for (int i = 0; i < entry.getValue().length(); i++) {
                boolean isQuoted = covered.get(title).get(i);
                left.append(isQuoted ? ' ' : entry.getValue().charAt(i));
            }
            String rest = left.toString().trim().replaceAll("\\s+", " ");
            due.isTrue(title + ": no test for '" + rest + "'", rest.isEmpty());
        }
        due.close(name);
    }
}
