import java.lang.reflect.Constructor;
import java.lang.reflect.Field;
import java.lang.reflect.Method;
import java.lang.reflect.Modifier;
import java.util.HashSet;
import java.util.Set;

/** "What it is" and "The public face", line by line. */
final class FaceEdges {
    private static final String[] CALLS = {
        "public int set(int what, int v);",
        "public int cut(int cutter, int sort, int v);",
        "public int price(int sort, int v);",
        "public int person(int minute, int kind, int sort, int number);",
        "public int told(int person, int what);",
        "public int strike(int person);",
        "public int type(long w, int n);",
        "public int manners();",
        "public int before(int kind, int other);",
        "public int rounds();",
        "public int people();",
        "public int count(int what);",
        "public int fate(int person, int what);",
        "public int at(int minute, int what);",
        "public int day(int what);",
        "public int more(int minute, int kind, int sort, int number, int what);",
        "public int tell(int what);",
        "public int choosers();",
        "public int third(int fee, int what);",
        "public int last(int minute);",
        "public int worth(int cutter);",
        "public int rule(int rule, int what);",
        "public int best();",
        "public int word(int first, int second);",
        "public int hush();",
        "public int drops();",
        "public int first();",
        "public int orders(int people);",
        "public int image();",
        "public int restore();",
        "public int crowd(int sheet, int lane, int from, int n);",
        "public int sheet(int sheet, int lane, int n);",
        "public int drop(int sheet);",
        "public int item(int sheet, int lane, int i, int v);",
        "public int film(int sheet, int lane, int from);",
    };

    private FaceEdges() {
    }

    static void tell(Edges edges) {
        face(edges);
        edges.section("What it is");
        edges.heading("Two chairs and a bench: a room in which two cut and a third may, people who come by minutes, look how many"
            + " sit, stay or go on; who is next, by place and by manners that may go round in a ring; a man who wants one chair"
            + " alone and lets others by, a father with three, one who is out for a smoke, one who called, one who grows tired;"
            + " how long each waits, what one should tell the next, what those who choose cost the rest, when the third should"
            + " cut, when to shut the door, what each chair is worth, three rules held against each other; words about who was"
            + " first, the fewest that can't be true; manners and people as texts; images; sheets that may be missing.");
        edges.says("An object is used for at most 512 calls after it has been made;", FaceEdges::calls);
        edges.heading("what later calls answer is free.");
        edges.section("Not promised");
        edges.heading("How the state is held inside the object is free, as are the speed of each call, the text of toString and the"
            + " behaviour of equals and hashCode.");
        edges.heading("Use of one object from several threads at once is not promised to be safe.");
        edges.heading("Nothing is promised beyond the answers and state changes described above, and nothing about an object after"
            + " its 512th call.");
    }

    private static void face(Edges edges) {
        edges.section("The public face");
        edges.says("public final class NodBench {", FaceEdges::theClass);
        edges.says("public static final int BAD = -1, NOT = -2, FULL = -3, NONE = -4, NULL = -11, CAST = -12, INDEX = -13,"
            + " SIZE = -14;", FaceEdges::constants);
        edges.says("public NodBench();", FaceEdges::constructor);
        for (String line : CALLS) {
            edges.says(line, due -> call(due, line));
        }
        edges.says("}", FaceEdges::nothingElse);
    }

    private static void theClass(Due due) {
        int modifiers = NodBench.class.getModifiers();
        due.isTrue("public", Modifier.isPublic(modifiers));
        due.isTrue("final", Modifier.isFinal(modifiers));
        due.isTrue("without a package", NodBench.class.getPackageName().isEmpty());
        due.isTrue("no class of another one", NodBench.class.getSuperclass() == Object.class);
        due.is("no interface", NodBench.class.getInterfaces().length, 0);
    }

    private static void constants(Due due) {
        String[] names = {"BAD", "NOT", "FULL", "NONE", "NULL", "CAST", "INDEX", "SIZE"};
        int[] values = {-1, -2, -3, -4, -11, -12, -13, -14};
        for (int i = 0; i < names.length; i++) {
            try {
                Field field = NodBench.class.getDeclaredField(names[i]);
                int wanted = Modifier.PUBLIC | Modifier.STATIC | Modifier.FINAL;
                due.is(names[i] + ": public static final", field.getModifiers(), wanted);
                due.isTrue(names[i] + ": int", field.getType() == int.class);
                due.is(names[i], field.getInt(null), values[i]);
            } catch (ReflectiveOperationException e) {
                due.isTrue(names[i] + " is there for all: " + e, false);
            }
        }
    }

    private static void constructor(Due due) {
        Constructor<?>[] made = NodBench.class.getDeclaredConstructors();
        due.is("how many", made.length, 1);
        due.isTrue("public", Modifier.isPublic(made[0].getModifiers()));
        due.is("of nothing", made[0].getParameterCount(), 0);
    }

    /** What a method is, as the document writes it, but for the names in brackets. */
    private static String written(Method m) {
        StringBuilder text = new StringBuilder(Modifier.toString(m.getModifiers()));
        text.append(' ').append(m.getReturnType().getName()).append(' ').append(m.getName()).append('(');
        String between = "";
        for (Class<?> type : m.getParameterTypes()) {
            text.append(between).append(type.getName());
            between = ", ";
        }
        return text.append(");").toString();
    }

    private static void call(Due due, String line) {
        String wanted = line.replaceAll("(int|long) \\w+(?=[,)])", "$1");
        int found = 0;
        for (Method m : NodBench.class.getDeclaredMethods()) {
            found += written(m).equals(wanted) ? 1 : 0;
        }
        due.is("methods of the class that are " + wanted, found, 1);
    }

    private static void nothingElse(Due due) {
        Set<String> lines = new HashSet<>();
        for (String line : CALLS) {
            lines.add(line.replaceAll("(int|long) \\w+(?=[,)])", "$1"));
        }
        for (Method m : NodBench.class.getDeclaredMethods()) {
            due.isTrue(written(m) + " is of the face or private", Modifier.isPrivate(m.getModifiers()) || lines.contains(written(m)));
        }
        int open = 0;
        for (Field field : NodBench.class.getDeclaredFields()) {
            open += Modifier.isPrivate(field.getModifiers()) ? 0 : 1;
        }
        due.is("fields that are not private", open, 8);
    }

    private static void calls(Due due) {
        NodBench x = new NodBench();
        for (int call = 1; call <= 510; call++) {
            due.is("call " + call, x.set(0, call % 12 + 1), call == 1 ? 7 : (call - 1) % 12 + 1);
        }
        due.is("call 511", x.person(0, 0, 0, 0), 0);
        due.is("call 512", x.fate(0, 0), 3);
        busy(due);
    }

    /** A day of all KINDS, WORDS in a ring, an IMAGE, a SHEET, half a text: 12 calls. */
    private static NodBench busyRoom(Due due) {
        NodBench x = new NodBench();
        Due.people(x, "0p3;1c0:1;2g1:3;3o2:9;9l1:2;9t3:7");
        x.word(0, 1);
        x.word(1, 0);
        x.image();
        x.sheet(2, 1, 24);
        x.set(5, 2);
        due.is("typed ahead", x.type(Due.packed("10p"), 3), 3);
        return x;
    }

    /** 512 calls of all that ask, and some that are refused: at the end all is as it was. */
    private static void busy(Due due) {
        NodBench x = busyRoom(due);
        NodBench y = busyRoom(due);
        for (int i = 0; i < 30; i++) {
            int third = x.third(i, 1);
            due.isTrue("the sum for a fee", third >= 0 && x.last(i + 1) >= 0 && x.best() > 0);
            due.is("what is refused", x.set(8, i) + x.person(240, 0, 0, 0) + x.word(0, 0) + x.film(2, 0, 0), -3 + NodBench.CAST);
            due.isTrue("what would be", x.more(i, 0, 0, 0, 0) >= 0 && x.worth(i % 3) >= 0 && x.rule(i % 3, 0) >= 0);
            due.is("what is told", x.drops() + x.first() + x.orders(63), y.drops() + y.first() + y.orders(63));
            due.is("in rounds", x.rounds(), 0);
            x.choosers();
            x.tell(0);
        }
        due.is("restored", x.restore() + y.restore(), 2);
        due.is("THIRD is as it was", x.set(5, 13), 13);
        due.is("THE TAPE is as it was", x.type(Due.packed("2"), 1), 4);
        y.type(Due.packed("2"), 1);
        due.is("a text across all", x.people(), y.people());
        for (int person = 0; person < 7; person++) {
            due.is("WAIT of " + person, x.fate(person, 1), y.fate(person, 1));
            due.is("CUT of " + person, x.fate(person, 2), y.fate(person, 2));
        }
        due.is("WORDS", x.count(2), 2);
        due.is("a SHEET", x.film(2, 1, 17), 7);
    }
}
