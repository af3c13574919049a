import java.io.IOException;
import java.lang.reflect.Constructor;
import java.lang.reflect.Field;
import java.lang.reflect.Method;
import java.lang.reflect.Modifier;
import java.nio.file.Files;
import java.nio.file.Path;
import java.util.ArrayList;
import java.util.Arrays;
import java.util.List;
import java.util.Set;
import java.util.TreeSet;
import java.util.regex.Matcher;
import java.util.regex.Pattern;

/** The public face, and the rules of LANGUAGE.md that can be seen from outside or from the text. */
final class FaceTest {
    private static final Path SOURCE = Path.of("src/main/java/NodBench.java");
    private static final String FACE = "at(int,int) before(int,int) best() choosers() count(int) crowd(int,int,int,int)"
        + " cut(int,int,int) day(int) drop(int) drops() fate(int,int) film(int,int,int) first() hush() image()"
        + " item(int,int,int,int) last(int) manners() more(int,int,int,int,int) orders(int) people()"
        + " person(int,int,int,int) price(int,int) restore() rounds() rule(int,int) set(int,int) sheet(int,int,int)"
        + " strike(int) tell(int) third(int,int) told(int,int) type(long,int) word(int,int) worth(int)";
    private static final Due due = new Due();

    public static void main(String[] args) throws IOException, ReflectiveOperationException {
        constants();
        face();
        inside();
        text(plain(Files.readString(SOURCE)));
        due.close("FaceTest");
    }

    private static void constants() throws ReflectiveOperationException {
        String[] names = {"BAD", "NOT", "FULL", "NONE", "NULL", "CAST", "INDEX", "SIZE"};
        int[] values = {-1, -2, -3, -4, -11, -12, -13, -14};
        for (int i = 0; i < names.length; i++) {
            Field field = NodBench.class.getField(names[i]);
            due.isTrue(names[i] + " is a constant", Modifier.isStatic(field.getModifiers())
                && Modifier.isFinal(field.getModifiers()) && field.getType() == int.class);
            due.is(names[i], field.getInt(null), values[i]);
        }
        due.is("no other public field", NodBench.class.getFields().length, names.length);
    }

    private static void face() {
        due.isTrue("public and final", Modifier.isPublic(NodBench.class.getModifiers())
            && Modifier.isFinal(NodBench.class.getModifiers()));
        Constructor<?>[] made = NodBench.class.getDeclaredConstructors();
        due.isTrue("one public constructor", made.length == 1 && Modifier.isPublic(made[0].getModifiers())
            && made[0].getParameterCount() == 0);
        Set<String> seen = new TreeSet<>();
        for (Method m : NodBench.class.getDeclaredMethods()) {
            boolean isPublic = Modifier.isPublic(m.getModifiers());
            due.isTrue(m + " is public or private", isPublic || Modifier.isPrivate(m.getModifiers()));
            if (isPublic) {
                due.isTrue(m + " answers an int", m.getReturnType() == int.class);
                List<String> types = new ArrayList<>();
                for (Class<?> type : m.getParameterTypes()) {
                    types.add(type.getName());
                }
                seen.add(m.getName() + "(" + String.join(",", types) + ")");
            }
        }
        due.isTrue("the face: " + seen, seen.equals(new TreeSet<>(Arrays.asList(FACE.split(" ")))));
    }

    private static void inside() {
        Set<String> names = new TreeSet<>();
        for (String call : FACE.split(" ")) {
            names.add(call.substring(0, call.indexOf('(')));
        }
        List<Class<?>> all = new ArrayList<>(List.of(NodBench.class.getDeclaredClasses()));
        due.isTrue("some twelve classes: " + all.size(), all.size() + 1 <= 14);
        all.add(NodBench.class);
        for (Class<?> c : all) {
            boolean isMain = c == NodBench.class;
            due.isTrue(c + " is not for all", isMain || !isOpen(c.getModifiers()));
            due.isTrue(c + " is static", isMain || Modifier.isStatic(c.getModifiers()));
            due.is(c + " holds classes", isMain ? 0 : c.getDeclaredClasses().length, 0);
            fields(c, isMain);
            for (Method m : c.getDeclaredMethods()) {
                boolean isHidden = isMain && !Modifier.isPublic(m.getModifiers());
                due.isTrue(m + " has a name of its own", !isHidden || !names.contains(m.getName()));
                due.isTrue(m + " takes at most seven parameters", m.getParameterCount() <= 7);
                due.isTrue(m + " is no lambda", !m.getName().startsWith("lambda$"));
            }
        }
    }

    private static boolean isOpen(int modifiers) {
        return Modifier.isPublic(modifiers) || Modifier.isProtected(modifiers);
    }

    private static void fields(Class<?> c, boolean isMain) {
        int own = 0;
        for (Field f : c.getDeclaredFields()) {
            int modifiers = f.getModifiers();
            own += Modifier.isStatic(modifiers) ? 0 : 1;
            due.isTrue(f + " is final", !Modifier.isStatic(modifiers) || Modifier.isFinal(modifiers));
            due.isTrue(f + " is hidden", !isMain || Modifier.isPublic(modifiers) || Modifier.isPrivate(modifiers));
        }
        due.isTrue(c + " has some twenty fields: " + own, own <= 22);
    }

    /** The text without comments and without what stands in quotes. */
    private static String plain(String source) {
        String text = source.replaceAll("(?s)/\\*.*?\\*/", "").replaceAll("//[^\n]*", "");
        return text.replaceAll("\"[^\"\n]*\"", "\"\"").replaceAll("'[^'\n]*'", "0");
    }

    private static void text(String text) {
        String[] never = {"\\b(throw|throws|try|catch|finally|synchronized|assert|package|volatile|native)\\b", "::",
            "\\bstatic\\s*\\{", "\\bnew\\s+\\w+\\s*\\([^)]*\\)\\s*\\{", "[^\\x00-\\x7E]", "Exact\\b",
            "\\b(Object|Thread|Random|Class|Scanner|Exception|Error)\\b", "while\\s*\\(\\s*true", "for\\s*\\(\\s*;\\s*;"};
        for (String pattern : never) {
            due.isTrue("no " + pattern, !Pattern.compile(pattern).matcher(text).find());
        }
        due.isTrue("no lambda", !text.replaceAll("\\b(case\\b[^:;{}]*?|default\\s*)->", "").contains("->"));
        Matcher imported = Pattern.compile("\\bimport\\s+([\\w.*]+)").matcher(text);
        while (imported.find()) {
            due.isTrue("may import " + imported.group(1), imported.group(1).matches("java\\.util\\.(ArrayList|List|Arrays|Iterator)"));
        }
        library(text);
        int length = 0;
        for (String line : text.split("\n")) {
            boolean isOpening = line.matches("( {4}| {8})\\w.*\\(.*\\{");
            length = isOpening ? 0 : length + 1;
            due.isTrue("a short method near " + line, !line.matches("( {4}| {8})\\}") || length <= 66 || line.startsWith("    }"));
        }
    }

    /** What stands behind the name of a class of the library. */
    private static void library(String text) {
        String[] may = {"(Integer|Long|Math)\\.\\w+", "System\\.arraycopy", "Arrays\\.(copyOf|copyOfRange|fill)", "List\\.of"};
        Set<String> own = new TreeSet<>();
        for (Class<?> c : NodBench.class.getDeclaredClasses()) {
            own.add(c.getSimpleName());
        }
        Matcher used = Pattern.compile("(?<![\\w.])([A-Z]\\w*[a-z]\\w*)\\.\\w+").matcher(text);
        while (used.find()) {
            boolean isRight = own.contains(used.group(1)) || used.group(1).equals("NodBench");
            for (String pattern : may) {
                isRight = isRight || used.group().matches(pattern);
            }
            due.isTrue("may use " + used.group(), isRight);
        }
    }
}
