import java.lang.reflect.InvocationTargetException;
import java.lang.reflect.Method;
import java.util.ArrayList;
import java.util.List;

/** Calls that are refused where all is full: what they answer, and that nothing is other then. */
final class Refusals {
    private static final int BAD = NodBench.BAD, NOT = NodBench.NOT, FULL = NodBench.FULL, NONE = NodBench.NONE;
    private static final int NULL = NodBench.NULL, CAST = NodBench.CAST, INDEX = NodBench.INDEX, SIZE = NodBench.SIZE;
    private static final int MIN = Integer.MIN_VALUE, MAX = Integer.MAX_VALUE;

    /** Each call is refused with these arguments. */
    private record Refused(String call, long[] with, int due) {
        @Override
        public String toString() {
            StringBuilder text = new StringBuilder(call).append('(');
            for (int i = 0; i < with.length; i++) {
                text.append(i == 0 ? "" : ", ").append(with[i]);
            }
            return text.append(')').toString();
        }
    }

    private static final List<Refused> ALL = new ArrayList<>();

    static {
        ofTheShop();
        ofPeople();
        ofTheDay();
        ofWords();
        ofSheets();
    }

    private Refusals() {
    }

    private static void refused(int due, String call, long... with) {
        ALL.add(new Refused(call, with, due));
    }

    /** One argument of a call that would be right with these has to be from least to most. */
    private static void range(int due, String call, int which, int least, int most, long... right) {
        for (int wrong : new int[] {least - 1, most + 1, MIN, MAX}) {
            long[] with = right.clone();
            with[which] = wrong;
            refused(due, call, with);
        }
    }

    private static void ofTheShop() {
        range(BAD, "set", 0, 0, 7, 0, 1);
        int[][] settings = {{1, 12}, {0, 40}, {0, 239}, {0, 10}, {0, 20}, {0, 13}, {0, 1}, {0, 2}};
        for (int what = 0; what < settings.length; what++) {
            range(BAD, "set", 1, settings[what][0], settings[what][1], what, 1);
        }
        range(BAD, "cut", 0, 0, 2, 0, 0, 10);
        range(BAD, "cut", 1, 0, 3, 0, 0, 10);
        for (int cutter = 0; cutter < 3; cutter++) {
            for (int sort = 0; sort < 4; sort++) {
                range(BAD, "cut", 2, 1, 60, cutter, sort, 10);
            }
        }
        range(BAD, "price", 0, 0, 3, 0, 10);
        for (int sort = 0; sort < 4; sort++) {
            range(BAD, "price", 1, 0, 99, sort, 10);
        }
    }

    private static void ofPeople() {
        int[][] numbers = {{0, 0}, {0, 2}, {2, 4}, {1, 99}, {0, 150}, {1, 99}};
        for (int kind = 0; kind < 6; kind++) {
            for (int what = 0; what < 2; what++) {
                String call = what == 0 ? "person" : "more";
                for (int which = 0; which < 3; which++) {
                    int[] most = {239, 5, 3};
                    range(BAD, call, which, 0, most[which], one(what, 150, kind, 2, numbers[kind][0]));
                }
                range(BAD, call, 3, numbers[kind][0], numbers[kind][1], one(what, 150, kind, 2, 0));
                refused(FULL, call, one(what, 150, kind, 2, numbers[kind][1]));
            }
        }
        range(BAD, "more", 4, 0, 1, 5, 0, 0, 0, 0);
        range(BAD, "told", 0, 0, 11, 0, 0);
        range(BAD, "told", 1, 0, 3, 0, 0);
        range(BAD, "strike", 0, 0, 11, 0);
        range(BAD, "type", 1, 1, 8, 'p', 1);
        for (int n = 1; n <= 8; n++) {
            for (int i = 0; i < n; i++) {
                for (long wrong : new long[] {0, 31, 127, 128, 160, 255}) {
                    long right = 0x7E7E7E7E7E7E7E7EL & ~(255L << 8 * i);
                    refused(BAD, "type", right | wrong << 8 * i, n);
                }
            }
        }
        refused(FULL, "type", Due.packed("  "), 2);
        refused(FULL, "type", Due.packed("        "), 8);
        range(BAD, "before", 0, 0, 5, 0, 1);
        range(BAD, "before", 1, 0, 5, 0, 1);
        for (int kind = 0; kind < 6; kind++) {
            refused(BAD, "before", kind, kind);
        }
        range(BAD, "count", 0, 0, 2, 0);
    }

    /** The arguments of person(), or of more(). */
    private static long[] one(int call, long minute, long kind, long sort, long number) {
        return call == 0 ? new long[] {minute, kind, sort, number} : new long[] {minute, kind, sort, number, 0};
    }

    private static void ofTheDay() {
        range(BAD, "fate", 0, 0, 11, 0, 0);
        range(BAD, "fate", 1, 0, 3, 0, 0);
        range(BAD, "at", 0, 0, 239, 0, 0);
        range(BAD, "at", 1, 0, 4, 0, 0);
        range(BAD, "day", 0, 0, 8, 0);
        range(BAD, "tell", 0, 0, 1, 0);
        range(BAD, "third", 0, 0, 99, 5, 0);
        range(BAD, "third", 1, 0, 1, 5, 0);
        range(BAD, "last", 0, 1, 239, 100);
        range(BAD - 100000, "worth", 0, 0, 2, 0);
        range(BAD, "rule", 0, 0, 2, 0, 0);
        range(BAD, "rule", 1, 0, 2, 0, 0);
    }

    private static void ofWords() {
        range(BAD, "word", 0, 0, 11, 0, 1);
        range(BAD, "word", 1, 0, 11, 0, 1);
        for (int person = 0; person < 12; person++) {
            refused(BAD, "word", person, person);
        }
        refused(FULL, "word", 0, 1);
        refused(FULL, "word", 11, 10);
        for (int people : new int[] {0, -1, 4096, 4097, 511, 4095, 0x1FF << 3, 1 << 30, MIN, MIN + 1, MAX}) {
            refused(BAD, "orders", people);
        }
        refused(NONE, "restore");
    }

    /** SHEET 0 is 24 bytes, 1 is 5 shorts, 2 is a row of no ints, 3 is nothing. */
    private static void ofSheets() {
        range(BAD, "crowd", 0, 0, 3, 0, 0, 0, 1);
        range(BAD, "crowd", 1, 0, 2, 0, 0, 0, 1);
        range(BAD, "crowd", 3, 1, 6, 0, 0, 0, 1);
        refused(NULL, "crowd", 3, 0, 0, 1);
        refused(CAST, "crowd", 0, 1, 0, 1);
        range(INDEX, "crowd", 2, 0, 20, 0, 0, 0, 1);
        range(INDEX, "crowd", 2, 0, 0, 0, 0, 0, 6);
        range(INDEX, "crowd", 2, 0, 1, 1, 1, 0, 1);
        refused(INDEX, "crowd", 2, 2, 0, 1);
        refused(NOT, "crowd", 1, 1, 0, 1);
        refused(FULL, "crowd", 0, 0, 0, 1);
        range(BAD, "sheet", 0, 0, 3, 0, 0, 1);
        range(BAD, "sheet", 1, 0, 2, 0, 0, 1);
        refused(BAD, "sheet", 0, 0, 25);
        refused(BAD, "sheet", 3, 2, MAX);
        refused(SIZE, "sheet", 0, 0, -1);
        refused(SIZE, "sheet", 3, 2, MIN);
        range(BAD, "drop", 0, 0, 3, 0);
        refused(NULL, "drop", 3);
        range(BAD, "item", 0, 0, 3, 0, 0, 0, 1);
        range(BAD, "item", 1, 0, 2, 0, 0, 0, 1);
        refused(NULL, "item", 3, 0, 0, 1);
        refused(CAST, "item", 0, 2, 0, 1);
        range(INDEX, "item", 2, 0, 23, 0, 0, 0, 1);
        refused(INDEX, "item", 2, 2, 0, 1);
        range(BAD, "film", 0, 0, 3, 0, 0, 0);
        range(BAD, "film", 1, 0, 2, 0, 0, 0);
        refused(NULL, "film", 3, 0, 0);
        refused(CAST, "film", 0, 1, 0);
        range(INDEX, "film", 2, 0, 12, 0, 0, 0);
        refused(INDEX, "film", 1, 1, 0);
    }

    /** All that can be full is: PEOPLE, WORDS, and THE TAPE but for one byte. */
    static NodBench scene() {
        NodBench x = Due.with("0p3;0c2:1;1g0:2;2o1:9;3l2:1;4t1:30", "5p0;6c1:0;7g2:2;8o0:40;9l1:9;50t3:99");
        Due.manners(x, "tp,pl,lt");
        for (int word = 0; word < 12; word++) {
            x.word(word, (word + 1) % 12);
        }
        int[] settings = {11, 7, 50, 1, 6, 4, 0, 1};
        for (int what = 0; what < 8; what++) {
            x.set(what, settings[what]);
        }
        x.cut(1, 2, 21);
        x.price(3, 33);
        x.sheet(0, 0, 24);
        Due.fill(x, 0, 0, 0, 5, 0, 0, 0, 7, 1, 1, 2, 8, 2, 3, 4, 9, 3, 2, 99, 10, 4, 1, 10, 11, 5, 0, 1);
        x.sheet(1, 1, 5);
        Due.fill(x, 1, 1, 0, 240, 1, 2, 1, 3);
        x.sheet(2, 2, 0);
        Due.type(x, "1p0;2p0" + " ".repeat(72));
        return x;
    }

    /** Each refused call of this name answers as due. */
    static void answer(Due due, int as, String... calls) {
        for (Refused one : ALL) {
            if (one.due == as && List.of(calls).contains(one.call)) {
                due.is(one.toString(), call(scene(), one), one.due);
            }
        }
    }

    /** With a refused call and without it all other calls answer alike. */
    static void changeNothing(Due due) {
        List<Integer> want = look(scene());
        due.isTrue("there is much to look at", want.size() > 200 && want.size() < 400);
        for (Refused one : ALL) {
            NodBench x = scene();
            due.is(one.toString(), call(x, one), one.due);
            List<Integer> got = look(x);
            for (int i = 0; i < want.size(); i++) {
                if (!got.get(i).equals(want.get(i))) {
                    due.is("behind " + one + " look " + i, got.get(i), want.get(i));
                }
            }
        }
    }

    private static int call(NodBench x, Refused one) {
        for (Method m : NodBench.class.getDeclaredMethods()) {
            Class<?>[] types = m.getParameterTypes();
            if (m.getName().equals(one.call) && types.length == one.with.length) {
                Object[] with = new Object[types.length];
                for (int i = 0; i < types.length; i++) {
                    with[i] = types[i] == long.class ? (Object) one.with[i] : (Object) (int) one.with[i];
                }
                try {
                    return (int) m.invoke(x, with);
                } catch (IllegalAccessException | InvocationTargetException e) {
                    throw new IllegalStateException(one.toString(), e);
                }
            }
        }
        throw new IllegalStateException("no such call: " + one);
    }

    /** What there is to be seen of an object, which is another one then. */
    private static List<Integer> look(NodBench x) {
        List<Integer> seen = new ArrayList<>();
        lookAtPeople(x, seen);
        lookAtDay(x, seen);
        lookAtShop(x, seen);
        seen.add(x.restore());
        seen.add(x.type(' ', 1));
        seen.add(x.type(' ', 1));
        seen.add(x.strike(11));
        seen.add(x.strike(10));
        seen.add(x.people());
        while (x.strike(0) >= 0) {
            seen.add(x.count(2));
        }
        lookAtSheets(x, seen);
        return seen;
    }

    private static void lookAtPeople(NodBench x, List<Integer> seen) {
        for (int what = 0; what < 3; what++) {
            seen.add(x.count(what));
        }
        for (int person = 0; person < 12; person++) {
            for (int what = 0; what < 4; what++) {
                seen.add(x.told(person, what));
            }
        }
        for (int kind = 0; kind < 6; kind++) {
            for (int other = 0; other < 6; other++) {
                seen.add(x.before(kind, other));
            }
        }
        seen.add(x.rounds());
        seen.add(x.drops());
        seen.add(x.first());
        seen.add(x.orders(255));
        seen.add(x.orders(4080));
    }

    private static void lookAtDay(NodBench x, List<Integer> seen) {
        for (int what = 0; what <= 8; what++) {
            seen.add(x.day(what));
        }
        for (int person = 0; person < 12; person++) {
            for (int what = 0; what < 4; what++) {
                seen.add(x.fate(person, what));
            }
        }
        for (int minute = 0; minute < 240; minute += 13) {
            seen.add(x.at(minute, 0));
            seen.add(x.at(minute, 1));
            seen.add(x.at(minute, 2));
        }
    }

    private static void lookAtShop(NodBench x, List<Integer> seen) {
        for (int what = 0; what < 8; what++) {
            seen.add(x.set(what, 1));
        }
        for (int cutter = 0; cutter < 3; cutter++) {
            for (int sort = 0; sort < 4; sort++) {
                seen.add(x.cut(cutter, sort, 1));
            }
        }
        for (int sort = 0; sort < 4; sort++) {
            seen.add(x.price(sort, 1));
        }
    }

    private static void lookAtSheets(NodBench x, List<Integer> seen) {
        seen.add(x.crowd(0, 0, 0, 6));
        seen.add(x.crowd(1, 1, 1, 1));
        seen.add(x.crowd(1, 1, 0, 1));
        for (int person = 0; person < 8; person++) {
            for (int what = 0; what < 4; what++) {
                seen.add(x.told(person, what));
            }
        }
        seen.add(x.crowd(2, 2, 0, 1));
        seen.add(x.item(2, 2, 0, 1));
        for (int sheet = 0; sheet < 4; sheet++) {
            seen.add(x.drop(sheet));
        }
    }
}
