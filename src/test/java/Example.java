/** How NodBench is used. */
public final class Example {
    public static void main(String[] args) {
        NodBench x = new NodBench();
        x.set(5, 3);                        // THIRD: the third cuts when three or more wait
        x.person(0, 0, 3, 0);               // comes in MINUTE 0, PLAIN, wants SORT 3
        x.person(2, 1, 0, 0);               // in MINUTE 2, CHOOSING CUTTER 0
        x.person(4, 2, 1, 4);               // in MINUTE 4, GROUPED: a father with three
        type(x, "6o0:30; 10l1:3; 11t2:15"); // OUT for 30, LISTED (called at 3), TIRED after 15
        System.out.println("as a text: " + x.people());
        type(x, "lp, lg, to");              // LISTED before PLAIN and GROUPED, TIRED before OUT
        System.out.println("MANNERS: " + x.manners());

        for (int i = 0; i < x.count(0); i++) {
            System.out.println(i + ": FATE " + x.fate(i, 0) + ", WAIT " + x.fate(i, 1) + ", from MINUTE "
                + x.fate(i, 2) + " by CUTTER " + x.fate(i, 3));
        }
        System.out.println("COIN " + x.day(0) + ", WAITS " + x.day(1) + ", on SEATS in MINUTE 12: " + x.at(12, 1));

        System.out.println("a PLAIN one in MINUTE 15 would wait " + x.more(15, 0, 0, 0, 0));
        System.out.println("one should tell the next " + x.tell(0) + ": " + x.tell(1) + " feel LIED TO");
        System.out.println("the third should cut from " + x.third(2, 0) + " on, for a fee of 2");
        System.out.println("to be free by MINUTE 70: SHUT at " + x.last(70));
        System.out.println("RULES that are best, as a set: " + x.best());

        x.word(0, 1);                       // 0 was there ahead of 1
        x.word(1, 0);                       // .. and 1 ahead of 0
        System.out.println("WORDS that can't be true, as a set: " + x.drops());
        System.out.println("a KIND that is none: " + (x.person(0, 6, 0, 0) == NodBench.BAD ? "BAD" : "told"));
    }

    /** Up to eight bytes a call, the last one lowest. */
    static void type(NodBench x, String text) {
        for (int from = 0; from < text.length(); from += 8) {
            int end = Math.min(from + 8, text.length());
            long w = 0;
            for (int i = from; i < end; i++) {
                w = w << 8 | text.charAt(i);
            }
            x.type(w, end - from);
        }
    }
}
