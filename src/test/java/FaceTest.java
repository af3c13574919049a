import java.io.IOException;
import java.lang.reflect.Constructor;
import java.lang.reflect.Field;
import java.lang.reflect.Method;
import java.lang.reflect.Modifier;
import java.nio.file.Files;
import java.nio.file.Path;
import java.util.ArrayList;
import java.util.Arrays;
import java.util.List;
import java.util.Set;
import java.util.TreeSet;
import java.util.regex.Matcher;
import java.util.regex.Pattern;

/** The public face, and the rules of LANGUAGE.md that can be seen from outside or from the text. */
final class FaceTest {
    private static final Path SOURCE = Path.of("src/main/java/NodBench.java");
    private static final String FACE = "at(int,int) before(int,int) best() choosers() count(int) crowd(int,int,int,int)"
        + " cut(int,int,int) day(int) drop(int) drops() fate(int,int) film(int,int,int) first() hush() image()"
        + " item(int,int,int,int) last(int) manners() more(int,int,int,int,int) orders(int) people()"
        + " person(int,int,int,int) price(int,int) restore() rounds() rule(int,int) set(int,int) sheet(int,int,int)"
        + " strike(int) tell(int) third(int,int) told(int,int) type(long,int) word(int,int) worth(int)";
    private static final Due due = new Due();

    public static void main(String[] args) throws IOException, ReflectiveOperationException {
        constants();
        face();
        inside();
        text(plain(Files.readString(SOURCE)));
        due.close("FaceTest");
    }

    private static void constants() throws ReflectiveOperationException {
        String[] names = {"BAD", "NOT", "FULL", "NONE", "NULL", "CAST", "INDEX", "SIZE"};
        int[] values = {-1, -2, -3, -4, -11, -12, -13, -14};
        for (int i = 0; i < names.length; i++) {
            Field field = NodBench.class.getField(names[i]);
            due.isTrue(names[i] + " is a constant", Modifier.isStatic(field.getModifiers())
                && Modifier.isFinal(field.getModifiers()) && field.getType() == int.class);
            due.is(names[i], field.getInt(null), values[i]);
        }
        due.is("no other public field", NodBench.class.getFields().length, names.length);
    }

    private static void face() {
        due.isTrue("public and final", Modifier.isPublic(NodBench.class.getModifiers())
            && Modifier.isFinal(NodBench.class.getModifiers()));
        Constructor<?>[] made = NodBench.class.getDeclaredConstructors();
        due.isTrue("one public constructor", made.length == 1 && Modifier.isPublic(made[0].getModifiers())
            && made[0].getParameterCount() == 0);
        Set<String> seen = new TreeSet<>();
        for (Method m : NodBench.class.getDeclaredMethods()) {
            boolean isPublic = Modifier.isPublic(m.getModifiers());
            due.isTrue(m + " is public or private", isPublic || Modifier.isPrivate(m.getModifiers()));
            if (isPublic) {
                due.isTrue(m + " answers an int", m.getReturnType() == int.class);
                List<String> types = new ArrayList<>();
                for (Class<?> type : m.getParameterTypes()) {
                    types.add(type.getName());
                }
                seen.add(m.getName() + "(" + String.join(",", types) + ")");
            }
        }
        due.isTrue("the face: " + seen, seen.equals(new TreeSet<>(Arrays.asList(FACE.split(" ")))));
    }

    private static void inside() {
        Set<String> names = new TreeSet<>();
        for (String call : FACE.split(" ")) {
            names.add(call.substring(0, call.indexOf('(')));
        }
        List<Class<?>> all = new ArrayList<>(List.of(NodBench.class.getDeclaredClasses()));
        due.isTrue("few classes", all.size() + 1 <= 12);
        all.add(NodBench.class);
        for (Class<?> c : all) {
            int modifiers = c.getModifiers();
            boolean isMain = c == NodBench.class;
            due.isTrue(c + " is private and static", isMain || Modifier.isPrivate(modifiers) && Modifier.isStatic(modifiers));
            due.is(c + " holds classes", isMain ? 0 : c.getDeclaredClasses().length, 0);
            int fields = 0;
            for (Field f : c.getDeclaredFields()) {
                boolean isStatic = Modifier.isStatic(f.getModifiers());
                fields += isStatic ? 0 : 1;
                due.isTrue(f + " is final", !isStatic || Modifier.isFinal(f.getModifiers()));
                due.isTrue(f + " is hidden", !isMain || f.getName().matches("[A-Z]+") || Modifier.isPrivate(f.getModifiers()));
            }
            due.isTrue(c + " has few fields: " + fields, fields <= 20);
            for (Method m : c.getDeclaredMethods()) {
                boolean isFace = isMain && Modifier.isPublic(m.getModifiers());
                due.isTrue(m + " has a name of its own", isFace || !names.contains(m.getName()));
                due.isTrue(m + " takes few parameters", m.getParameterCount() <= 7);
                due.isTrue(m + " was written", !m.isSynthetic());
            }
        }
    }

    /** The text without comments and without what stands in quotes. */
    private static String plain(String source) {
        String text = source.replaceAll("(?s)/\\*.*?\\*/", "").replaceAll("//[^\n]*", "");
        return text.replaceAll("\"[^\"\n]*\"", "\"\"").replaceAll("'[^'\n]*'", "0");
    }

    private static void text(String text) {
        String[] never = {"\\b(throw|throws|try|catch|finally|synchronized|assert|import|package|interface|volatile)\\b", "->",
            "::", "\\bstatic\\s*\\{", "\\bnew\\s+\\w+\\s*\\([^)]*\\)\\s*\\{", "[^\\x00-\\x7E]", "Exact\\b", "\"",
            "\\b(String|Object|Thread|Random|float|double)\\b", "while\\s*\\(\\s*true", "for\\s*\\(\\s*;\\s*;"};
        for (String pattern : never) {
            Matcher found = Pattern.compile(pattern).matcher(text);
            due.isTrue("no " + pattern, !found.find());
        }
        Set<String> library = Set.of("Math.max", "Math.min", "Math.abs", "Integer.bitCount", "System.arraycopy");
        Set<String> own = new TreeSet<>();
        for (Class<?> c : NodBench.class.getDeclaredClasses()) {
            own.add(c.getSimpleName());
        }
        Matcher used = Pattern.compile("\\b([A-Z][a-zA-Z]*)\\.\\w+").matcher(text);
        while (used.find()) {
            due.isTrue("may use " + used.group(), own.contains(used.group(1)) || library.contains(used.group()));
        }
        int length = 0;
        for (String line : text.split("\n")) {
            boolean isOpening = line.matches("( {4}| {8})(public|private|static|int|void|boolean).*\\{");
            length = isOpening ? 0 : length + 1;
            due.isTrue("a short method near " + line, !line.matches("( {4}| {8})\\}") || length <= 60 || line.startsWith("    }"));
        }
    }
}
