import java.io.IOException;
import java.lang.reflect.Field;
import java.lang.reflect.Method;
import java.lang.reflect.Modifier;
import java.nio.file.Files;
import java.nio.file.Path;
import java.util.ArrayList;
import java.util.List;
import java.util.Set;
import java.util.TreeSet;
import java.util.regex.Matcher;
import java.util.regex.Pattern;

/** The rules of LANGUAGE.md that can be seen in the compiled class or in its text. */
final class LanguageTest {
    private static final Path SOURCE = Path.of("src/main/java/NodBench.java");
    private static final Due due = new Due();

    public static void main(String[] args) throws IOException {
        inside();
        text(plain(Files.readString(SOURCE)));
        due.close("LanguageTest");
    }

    private static void inside() {
        Set<String> names = new TreeSet<>();
        for (Method m : NodBench.class.getMethods()) {
            names.add(m.getName());
        }
        List<Class<?>> all = new ArrayList<>(List.of(NodBench.class.getDeclaredClasses()));
        due.isTrue("some twelve classes: " + all.size(), all.size() + 1 <= 14);
        all.add(NodBench.class);
        for (Class<?> c : all) {
            boolean isMain = c == NodBench.class;
            due.isTrue(c + " is not for all", isMain || !isOpen(c.getModifiers()));
            due.isTrue(c + " is static", isMain || Modifier.isStatic(c.getModifiers()));
            due.is(c + " holds classes", isMain ? 0 : c.getDeclaredClasses().length, 0);
            fields(c, isMain);
            for (Method m : c.getDeclaredMethods()) {
                boolean isHidden = isMain && !Modifier.isPublic(m.getModifiers());
                due.isTrue(m + " has a name of its own", !isHidden || !names.contains(m.getName()));
                due.isTrue(m + " takes at most seven parameters", m.getParameterCount() <= 7);
                due.isTrue(m + " is no lambda", !m.getName().startsWith("lambda$"));
            }
        }
    }

    private static boolean isOpen(int modifiers) {
        return Modifier.isPublic(modifiers) || Modifier.isProtected(modifiers);
    }

    private static void fields(Class<?> c, boolean isMain) {
        int own = 0;
        for (Field f : c.getDeclaredFields()) {
            int modifiers = f.getModifiers();
            own += Modifier.isStatic(modifiers) ? 0 : 1;
            due.isTrue(f + " is final", !Modifier.isStatic(modifiers) || Modifier.isFinal(modifiers));
            due.isTrue(f + " is hidden", !isMain || Modifier.isPublic(modifiers) || Modifier.isPrivate(modifiers));
        }
        due.isTrue(c + " has some twenty fields: " + own, own <= 22);
    }

    /** The text without comments and without what stands in quotes. */
    private static String plain(String source) {
        String text = source.replaceAll("(?s)/\\*.*?\\*/", "").replaceAll("//[^\n]*", "");
        return text.replaceAll("\"[^\"\n]*\"", "\"\"").replaceAll("'[^'\n]*'", "0");
    }

    private static void text(String text) {
        String[] never = {"\\b(throw|throws|try|catch|finally|synchronized|assert|package|volatile|native)\\b", "::",
            "\\bstatic\\s*\\{", "\\bnew\\s+\\w+\\s*\\([^)]*\\)\\s*\\{", "[^\\x00-\\x7E]", "Exact\\b",
            "\\b(Object|Thread|Random|Class|Scanner|Exception|Error)\\b", "while\\s*\\(\\s*true", "for\\s*\\(\\s*;\\s*;"};
        for (String pattern : never) {
            due.isTrue("no " + pattern, !Pattern.compile(pattern).matcher(text).find());
        }
        due.isTrue("no lambda", !text.replaceAll("\\b(case\\b[^:;{}]*?|default\\s*)->", "").contains("->"));
        Matcher imported = Pattern.compile("\\bimport\\s+([\\w.*]+)").matcher(text);
        while (imported.find()) {
            due.isTrue("may import " + imported.group(1), imported.group(1).matches("java\\.util\\.(ArrayList|List|Arrays|Iterator)"));
        }
        library(text);
        int length = 0;
        for (String line : text.split("\n")) {
            boolean isOpening = line.matches("( {4}| {8})\\w.*\\(.*\\{");
            length = isOpening ? 0 : length + 1;
            due.isTrue("a short method near " + line, !line.matches("( {4}| {8})\\}") || length <= 66 || line.startsWith("    }"));
        }
    }

    /** What stands behind the name of a class of the library. */
    private static void library(String text) {
        String[] may = {"(Integer|Long|Math)\\.\\w+", "System\\.arraycopy", "Arrays\\.(copyOf|copyOfRange|fill)", "List\\.of"};
        Set<String> own = new TreeSet<>();
        for (Class<?> c : NodBench.class.getDeclaredClasses()) {
            own.add(c.getSimpleName());
        }
        Matcher used = Pattern.compile("(?<![\\w.])([A-Z]\\w*[a-z]\\w*)\\.\\w+").matcher(text);
        while (used.find()) {
            boolean isRight = own.contains(used.group(1)) || used.group(1).equals("NodBench");
            for (String pattern : may) {
                isRight = isRight || used.group().matches(pattern);
            }
            due.isTrue("may use " + used.group(), isRight);
        }
    }
}
