/** Promises 17 to 31: what would be; words; images. */
final class WouldBeTest {
    private static final int BAD = NodBench.BAD, FULL = NodBench.FULL, NONE = NodBench.NONE;
    private static final Due due = new Due();

    public static void main(String[] args) {
        more();
        tell();
        choosers();
        third();
        last();
        worth();
        rule();
        best();
        word();
        hush();
        drops();
        first();
        orders();
        images();
        nothingChanges();
        due.close("WouldBeTest");
    }

    private static NodBench with(String people) {
        NodBench x = new NodBench();
        Due.people(x, people);
        return x;
    }

    private static void more() {
        NodBench x = with("0p0;0p0");
        due.is("17 waits", x.more(0, 0, 0, 0, 0), 10);
        due.is("17 is cut", x.more(0, 0, 0, 0, 1), 3);
        due.is("17 turned", x.more(5, 2, 0, 4, 1), 3);
        x.set(0, 3);
        due.is("17 turned", x.more(5, 2, 0, 4, 1), 1);
        due.is("17 turned: no wait", x.more(5, 2, 0, 4, 0), 0);
        due.is("17 gone", x.more(5, 5, 0, 2, 1), 2);
        due.is("17 gone", x.more(5, 5, 0, 2, 0), 2);
        due.is("17 in vain", x.more(5, 1, 0, 2, 1), 4);
        due.is("17 in vain", x.more(5, 1, 0, 2, 0), 235);
        due.is("17 it is not told", x.count(0), 2);
        int[][] wrong = {{-1, 0, 0, 0, 0}, {240, 0, 0, 0, 0}, {0, 6, 0, 0, 0}, {0, 0, 4, 0, 0}, {0, 0, 0, 1, 0},
            {0, 0, 0, 0, 2}, {0, 0, 0, 0, -1}, {5, 4, 0, 6, 0}};
        for (int[] w : wrong) {
            due.is("17 wrong", x.more(w[0], w[1], w[2], w[3], w[4]), BAD);
        }
        Due.people(x, "9p0;9p0;9p0;9p0;9p0;9p0;9p0;9p0");
        Due.people(x, "9p0");
        due.is("17 the twelfth", x.more(200, 0, 0, 0, 0), 0);
        x.person(9, 0, 0, 0);
        due.is("17 full", x.more(200, 0, 0, 0, 0), FULL);
        due.is("17 bad before full", x.more(200, 0, 0, 0, 2), BAD);
        NodBench y = with("0p3;0p3;20p0;21p0");
        due.is("17 the last of like ones", y.more(20, 0, 0, 0, 0), 16);
    }

    private static void tell() {
        NodBench x = new NodBench();
        due.is("18 nobody", x.tell(0), NONE);
        due.is("18 nothing", x.tell(2), BAD);
        due.is("18 nothing", x.tell(-1), BAD);
        x.set(0, 1);
        x.person(0, 2, 0, 2);
        due.is("18 all turned", x.tell(1), NONE);
        due.is("18 bad before none", x.tell(2), BAD);
        x.set(0, 7);
        due.is("18 one at once", x.tell(0), 0);
        NodBench y = with("0p3;0p3;9p0;8p0");
        // They wait 0, 0, 27 and 22 minutes.
        due.is("18 waits", y.day(1), 0 + 0 + 27 + 22);
        due.is("18 of like ones the least", y.tell(0), 0);
        due.is("18 two feel lied to", y.tell(1), 2);
        y.person(10, 0, 0, 0);
        // And 30.
        due.is("18 waits", y.day(1), 0 + 0 + 27 + 22 + 30);
        due.is("18 the most of them", y.tell(0), 20);
        due.is("18 two feel lied to", y.tell(1), 2);
        NodBench z = with("0c0:2;0c0:2;1c0:2");
        due.is("18 far off", z.tell(0), 0);
        due.is("18 all feel lied to", z.tell(1), 3);
        NodBench v = with("0p0;0p0;0p0");
        due.is("18 ten off is no lie", v.tell(0), 0);
        due.is("18 none", v.tell(1), 0);
        v.cut(0, 0, 11);
        due.is("18 eleven off is one", v.tell(0), 5);
        NodBench u = with("0c0:2;0p3;0p3");
        Due.people(u, "1c0:2");
        u.set(5, 2);
        u.person(56, 1, 0, 2);
        // At 1 the two choosers are enough for 2: one waits 1 minute, one 55 till two wait again.
        due.is("18 waits", u.fate(3, 1), 55);
        NodBench s = with("0p3;0p3;1t0:69;1t0:65;1t0:64;1t0:60");
        s.cut(0, 3, 60);
        s.cut(1, 3, 60);
        s.set(7, 0);
        // They wait 59, 59, 64 and 60.
        due.is("18 near all four", s.tell(0), 55);
        due.is("18 two did not wait", s.tell(1), 2);
        NodBench r = with("0g3:3;0g3:3;1t0:70;1t0:70");
        Due.people(r, "1t0:70");
        r.set(0, 12);
        due.is("18 all gone at 71", r.day(4), 3);
        due.is("18 the greatest time", r.tell(0), 60);
        due.is("18 two did not wait", r.tell(1), 2);
        NodBench w = with("0p3;0p3;1t0:20;1t0:20;1t0:20");
        due.is("18 gone ones count", w.tell(0), 10);
        due.is("18 gone ones count", w.tell(1), 0);
    }

    private static void choosers() {
        NodBench x = with("0p0;0p0;1p0");
        due.is("19 none chooses", x.choosers(), 0);
        NodBench y = with("0c0:1;0p0;1p0;2p0");
        // The chooser holds 1 for 17 minutes; plain it would take 0, for 10.
        due.is("19 they wait", y.day(1), 0 + 0 + 9 + 15);
        due.is("19 cost", y.choosers(), 9 + 15 - (9 + 10));
        NodBench w = with("2p0;0c0:1;0p0;1p0");
        due.is("19 who was told first", w.choosers(), 9 + 15 - (9 + 10));
        NodBench z = with("0c0:1;0c0:1;0c0:1;5p0");
        due.is("19 they leave 0 to others", z.choosers(), 0 - 7);
        due.is("19 they still choose", z.told(1, 1), 1);
        due.is("19 theirs", z.told(1, 3), 1);
    }

    private static void third() {
        NodBench x = with("0p0;0p0;0p0");
        due.is("20 no fee: the greatest", x.third(0, 0), 1);
        due.is("20 nobody waits", x.third(0, 1), 0);
        x.person(1, 0, 0, 0);
        due.is("20 a high fee: never", x.third(99, 0), 13);
        due.is("20 a high fee: waits", x.third(99, 1), 10 + 11);
        due.is("20 as it was", x.set(5, 13), 13);
        due.is("20 no fee below", x.third(-1, 0), BAD);
        due.is("20 no fee above", x.third(100, 0), BAD);
        due.is("20 nothing", x.third(0, 2), BAD);
        due.is("20 nothing", x.third(0, -1), BAD);
        NodBench y = with("0p0;0p0;0p0");
        y.cut(2, 0, 5);
        due.is("20 ten minutes less for five", y.third(1, 0), 1);
        due.is("20 sum", y.third(1, 1), 5);
        due.is("20 as dear: the greatest", y.third(2, 0), 13);
        due.is("20 sum", y.third(2, 1), 10);
        NodBench z = with("237p0;237p0;237p0");
        due.is("20 minutes till 239", z.third(1, 1), 3);
        due.is("20 of like ones the greatest", z.third(1, 0), 13);
    }

    private static void last() {
        NodBench x = new NodBench();
        due.is("21 nobody", x.last(1), 240);
        due.is("21 below", x.last(0), BAD);
        due.is("21 above", x.last(240), BAD);
        Due.people(x, "0p0;5p0;30p0;30p0;230p0");
        due.is("21 the last is too late", x.last(239), 230);
        due.is("21 that minute is free", x.last(42), 230);
        due.is("21 one before: till 30", x.last(41), 30);
        due.is("21 free at 17", x.last(17), 30);
        due.is("21 the second is over at 17", x.last(16), 5);
        due.is("21 free at 10", x.last(10), 5);
        due.is("21 the first is too late", x.last(9), 0);
        due.is("21 all are told still", x.count(0), 5);
        NodBench y = with("50c0:2;60p0");
        due.is("21 in vain", y.last(239), 50);
        NodBench z = with("0p3;0p3;1t0:5;40p0");
        due.is("21 gone ones may go", z.last(50), 240);
        NodBench w = with("0p0;229p0");
        due.is("21 over at 239", w.last(239), 240);
        due.is("21 not over at 238", w.last(238), 229);
    }

    private static void worth() {
        NodBench x = with("0p0;0p1;239p3");
        due.is("22 bad", x.worth(3), -100001);
        due.is("22 bad", x.worth(-1), -100001);
        due.is("22 the other cuts all", x.worth(0), 0);
        due.is("22 the third never cuts", x.worth(2), 0);
        x.person(239, 0, 2, 0);
        due.is("22 one is left", x.worth(0), 20);
        due.is("22 one is left", x.worth(1), 20);
        NodBench y = with("0p0;0c3:1;0g2:3");
        due.is("22 his chooser", y.worth(1), 30);
        y.set(0, 4);
        y.strike(2);
        Due.people(y, "1t0:3;1p0");
        due.is("22 a tired one goes without", y.worth(0) >= 0 ? 1 : 0, 1);
        NodBench z = with("0p3;0p3;1p3;9t0:22;10t3:60");
        int with = z.day(0);
        z.set(5, 1);
        due.is("22 less than nothing may come", z.worth(2), z.day(0) - with);
        due.is("22 the day is as it was", z.day(0) - z.worth(2), with);
    }

    private static void rule() {
        NodBench x = with("0p3;0p3;1p3;2p0;3t0:99");
        Due.manners(x, "tp");
        // By 0: 29, 34 and 45 (at 48); by 1: t at 30, then 1 at 36, then 2 at 40; by 2: 2 at 30, 3 at 36, 1 at 40.
        due.is("23 by place", x.rule(0, 0), 29 + 34 + 45);
        due.is("23 by manners", x.rule(1, 0), 27 + 35 + 38);
        due.is("23 by shorter", x.rule(2, 0), 28 + 33 + 39);
        due.is("23 most by place", x.rule(0, 1), 45);
        due.is("23 most by manners", x.rule(1, 1), 38);
        due.is("23 most by shorter", x.rule(2, 1), 39);
        due.is("23 coin", x.rule(0, 2), 110);
        due.is("23 the rule is as it was", x.set(7, 0), 1);
        due.is("23 no rule", x.rule(3, 0), BAD);
        due.is("23 no rule", x.rule(-1, 0), BAD);
        due.is("23 nothing", x.rule(0, 3), BAD);
        due.is("23 nothing", x.rule(0, -1), BAD);
        due.is("24 manners and shorter", x.best(), 2);
    }

    private static void best() {
        NodBench x = new NodBench();
        due.is("24 all alike", x.best(), 7);
        Due.people(x, "0p3;0p3;1p3;2p0;3p0");
        // By place 29, 34, 45; by shorter 28, 33, 39.
        due.is("24 shorter is less in both", x.best(), 4);
        NodBench w = with("0p3;0p3;1p0;2t0:99;3t3:99");
        Due.manners(w, "tp");
        // By place and shorter 29, 34, 37; by manners 45, 28, 33, if the long one is cut by 1.
        due.is("24 by place", w.rule(0, 0), 29 + 34 + 37);
        due.is("24 all but manners", w.best(), 1 | 4);
        NodBench v = with("0p3;0p3;1t2:77;1p1;1t3:51;4t2:46;1p3");
        Due.manners(v, "tp");
        int[][] want = {{212, 53, 155}, {223, 64, 155}, {215, 59, 145}};
        for (int i = 0; i < 9; i++) {
            due.is("24 rule " + i / 3 + " " + i % 3, v.rule(i / 3, i % 3), want[i / 3][i % 3]);
        }
        due.is("24 the two others do not beat each other, but by place is best", v.best(), 1);
        NodBench y = with("0p3;0p3;1p3;2p0;3t1:34");
        Due.manners(y, "tp");
        // By place 29, 34, 34 and the tired one goes; by manners 27, 35, 43; by shorter 28, 33, 39.
        due.is("24 less coin", y.rule(0, 2), 100);
        due.is("24 more coin", y.rule(1, 2), 115);
        due.is("24 less waits or more coin", y.best(), 1 | 4);
        NodBench z = with("0p3;0p3;1g3:3;2p0;3p0;38p0;44p0");
        // By place 29, 34, 45, 22, 28; by shorter 49, 28, 33, 2, 4.
        due.is("24 less the most", z.rule(0, 1), 45);
        due.is("24 less together", z.rule(2, 0), 116);
        due.is("24 neither beats the other", z.best(), 7);
        due.is("24 all are told still", z.count(0), 7);
    }

    private static void word() {
        NodBench x = with("0p0;0p0;0p0");
        due.is("25 twice", x.word(1, 1), BAD);
        due.is("25 nobody", x.word(0, 3), BAD);
        due.is("25 nobody", x.word(3, 0), BAD);
        due.is("25 nobody", x.word(-1, 0), BAD);
        due.is("25 nobody", x.word(0, -1), BAD);
        for (int i = 0; i < 12; i++) {
            due.is("25 a word", x.word(i % 2, 2), i);
        }
        due.is("25 full", x.word(0, 1), FULL);
        due.is("25 bad before full", x.word(0, 0), BAD);
        due.is("25 twelve", x.count(2), 12);
        due.is("25 they are true together", x.drops(), 0);
    }

    private static void hush() {
        NodBench x = with("0p0;0p0");
        due.is("26 none", x.hush(), 0);
        x.word(0, 1);
        x.word(1, 0);
        due.is("26 two", x.hush(), 2);
        due.is("26 none is left", x.count(2), 0);
        due.is("26 none is left", x.drops(), 0);
        due.is("26 a new one", x.word(1, 0), 0);
    }

    private static void drops() {
        NodBench x = with("0p0;0p0;0p0;0p0;0p0");
        x.word(0, 1);
        x.word(1, 2);
        due.is("27 true together", x.drops(), 0);
        x.word(2, 0);
        due.is("27 of like ones the least", x.drops(), 1);
        x.word(3, 0);
        x.word(1, 3);
        due.is("27 one word in both rounds", x.drops(), 1);
        x.word(0, 1);
        due.is("27 told twice: two of the others are less than both", x.drops(), 2 | 8);
        NodBench y = with("0p0;0p0;0p0;0p0");
        y.word(0, 1);
        y.word(1, 0);
        y.word(1, 0);
        due.is("27 the fewest, though not the least", y.drops(), 1);
        y.hush();
        y.word(1, 0);
        y.word(1, 0);
        y.word(0, 1);
        due.is("27 the fewest", y.drops(), 4);
        y.hush();
        for (int i = 0; i < 4; i++) {
            for (int j = 0; j < 4; j++) {
                if (i != j) {
                    y.word(i, j);
                }
            }
        }
        // One of each two stands against the other: least are (0, 1), (0, 2), (0, 3), (1, 2), (1, 3), (2, 3).
        due.is("27 half of all", Integer.bitCount(y.drops()), 6);
        due.is("27 all against 0, 1, 2 in this order", y.drops(), 1 | 2 | 4 | 16 | 32 | 256);
    }

    private static void first() {
        NodBench x = with("0p0;0p0;0p0;0p0");
        due.is("28 all", x.first(), 15);
        x.word(0, 1);
        x.word(1, 2);
        due.is("28 two", x.first(), 1 | 8);
        x.word(2, 0);
        due.is("28 without the first word", x.first(), 2 | 8);
        NodBench y = new NodBench();
        due.is("28 nobody", y.first(), 0);
    }

    private static void orders() {
        NodBench x = with("0p0;0p0;0p0;0p0;0p0;0p0;0p0;0p0");
        x.person(0, 0, 0, 0);
        due.is("29 none", x.orders(0), BAD);
        due.is("29 nobody", x.orders(512), BAD);
        due.is("29 nobody", x.orders(-1), BAD);
        due.is("29 nobody", x.orders(Integer.MIN_VALUE), BAD);
        due.is("29 nine", x.orders(511), BAD);
        due.is("29 eight", x.orders(510), 40320);
        due.is("29 one", x.orders(256), 1);
        due.is("29 the first one", x.orders(1), 1);
        x.word(1, 3);
        x.word(2, 3);
        due.is("29 two ahead of one", x.orders(14), 2);
        x.hush();
        x.word(1, 2);
        x.word(2, 3);
        due.is("29 half", x.orders(6), 1);
        due.is("29 the one between is not there", x.orders(10), 2);
        due.is("29 in a line", x.orders(14), 1);
        due.is("29 with one more", x.orders(15), 4);
        x.word(3, 1);
        due.is("29 without the first word", x.orders(14), 1);
        due.is("29 without the first word", x.orders(6), 2);
    }

    private static void images() {
        NodBench x = with("3p1;4t2:9");
        due.is("31 none", x.restore(), NONE);
        Due.manners(x, "pc");
        x.word(0, 1);
        x.set(0, 3);
        x.cut(1, 1, 7);
        x.price(2, 9);
        x.sheet(0, 1, 5);
        Due.type(x, "5p");
        due.is("30 kept", x.image(), 1);
        x.strike(0);
        Due.manners(x, "lt,ot");
        x.set(0, 4);
        x.cut(1, 1, 8);
        x.price(2, 10);
        x.sheet(0, 2, 6);
        Due.type(x, "8p");
        due.is("31 as it was", x.restore(), 1);
        due.is("31 people", x.count(0), 2);
        due.is("31 people", x.told(1, 3), 9);
        due.is("31 manners", x.count(1), 1);
        due.is("31 manners", x.before(0, 1), 1);
        due.is("31 words", x.count(2), 1);
        due.is("31 settings", x.set(0, 5), 3);
        due.is("31 needs", x.cut(1, 1, 9), 7);
        due.is("31 prices", x.price(2, 11), 9);
        due.is("31 not the sheets", x.item(0, 2, 5, 1), 1);
        due.is("31 not the tape", x.people(), -22);
        due.is("31 once more", x.restore(), 1);
        due.is("31 as it was", x.set(0, 5), 3);
        x.image();
        due.is("30 a new image", x.restore(), 1);
        due.is("30 a new image", x.set(0, 5), 5);
    }

    private static void nothingChanges() {
        NodBench x = with("0p3;0c3:1;1g0:2;2o1:9;3l2:1;4t1:30");
        Due.manners(x, "tp,pl,lt");
        int coin = x.day(0);
        int waits = x.day(1);
        int quarrels = x.day(7);
        x.more(1, 0, 0, 0, 0);
        x.choosers();
        x.third(5, 0);
        x.last(100);
        x.worth(1);
        x.rule(2, 0);
        x.best();
        Due.people(x, "1p");
        Due.manners(x, "pc,p");
        due.is("coin", x.day(0), coin);
        due.is("waits", x.day(1), waits);
        due.is("quarrels", x.day(7), quarrels);
        x.set(2, 60);
        due.is("coin, played again", x.day(0), coin);
        due.is("waits, played again", x.day(1), waits);
        due.is("quarrels, played again", x.day(7), quarrels);
    }
}
