/** Counts the answers that are not as due, and prints each. */
final class Due {
    private int seen = 0;
    private int wrong = 0;

    void is(String call, long got, long want) {
        seen++;
        if (got != want) {
            wrong++;
            System.out.println(call + " answered " + got + ", due is " + want);
        }
    }

    void isTrue(String what, boolean holds) {
        is(what, holds ? 1 : 0, 1);
    }

    /** Ends the program: with exit code 1 if an answer was wrong. */
    void close(String name) {
        System.out.println(name + ": " + seen + " answers, " + wrong + " wrong");
        System.exit(wrong == 0 && seen > 0 ? 0 : 1);
    }

    /** Types a text; the last answer of type(). */
    static int type(NodBench x, String text) {
        int answer = 0;
        for (int from = 0; from < text.length(); from += 8) {
            String part = text.substring(from, Math.min(text.length(), from + 8));
            answer = x.type(packed(part), part.length());
        }
        return answer;
    }

    /** The bytes of up to eight letters, the last one lowest. */
    static long packed(String part) {
        long w = 0;
        for (int i = 0; i < part.length(); i++) {
            w = w << 8 | part.charAt(i);
        }
        return w;
    }

    static int people(NodBench x, String text) {
        type(x, text);
        return x.people();
    }

    static int manners(NodBench x, String text) {
        type(x, text);
        return x.manners();
    }
}
