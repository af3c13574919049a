/** Counts the answers that are not as due, and prints each. */
final class Due {
    private int seen = 0;
    private int wrong = 0;
    private String subject = "";

    /** What the next answers are about: it is printed ahead of each that is wrong. */
    void about(String what) {
        subject = what;
    }

    int seen() {
        return seen;
    }

    void is(String call, long got, long want) {
        seen++;
        if (got != want) {
            wrong++;
            System.out.println(subject + call + " answered " + got + ", due is " + want);
        }
    }

    void isTrue(String what, boolean holds) {
        is(what, holds ? 1 : 0, 1);
    }

    /** Ends the program: with exit code 1 if an answer was wrong. */
    void close(String name) {
        System.out.println(name + ": " + seen + " answers, " + wrong + " wrong");
        System.exit(wrong == 0 && seen > 0 ? 0 : 1);
    }

    /** Types a text; the last answer of type(). */
    static int type(NodBench x, String text) {
        int answer = 0;
        for (int from = 0; from < text.length(); from += 8) {
            String part = text.substring(from, Math.min(text.length(), from + 8));
            answer = x.type(packed(part), part.length());
        }
        return answer;
    }

    /** The bytes of up to eight letters, the last one lowest. */
    static long packed(String part) {
        long w = 0;
        for (int i = 0; i < part.length(); i++) {
            w = w << 8 | part.charAt(i);
        }
        return w;
    }

    static int people(NodBench x, String text) {
        type(x, text);
        return x.people();
    }

    static int manners(NodBench x, String text) {
        type(x, text);
        return x.manners();
    }

    /** A new object to which these come: texts of up to eight. */
    static NodBench with(String... texts) {
        NodBench x = new NodBench();
        for (String text : texts) {
            people(x, text);
        }
        return x;
    }

    /** Fills a SHEET's items, from one on. */
    static void fill(NodBench x, int sheet, int lane, int from, int... items) {
        for (int i = 0; i < items.length; i++) {
            x.item(sheet, lane, from + i, items[i]);
        }
    }

    /** All that fate() tells of one of PEOPLE. */
    void fate(String what, NodBench x, int person, int fate, int wait, int begun, int by) {
        is(what + ": fate of " + person, x.fate(person, 0), fate);
        is(what + ": wait of " + person, x.fate(person, 1), wait);
        is(what + ": begin of " + person, x.fate(person, 2), begun);
        is(what + ": cutter of " + person, x.fate(person, 3), by);
    }
}
