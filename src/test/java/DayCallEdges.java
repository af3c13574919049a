/** Promises 14 to 24, sentence by sentence. */
final class DayCallEdges {
    private static final int BAD = NodBench.BAD, FULL = NodBench.FULL, NONE = NodBench.NONE;
    private static final int TURNED = 1, GONE = 2, CUT = 3, VAIN = 4;

    private DayCallEdges() {
    }

    static void tell(Edges edges) {
        edges.section("Promise 14");
        edges.says("Of one of PEOPLE: 0 FATE, 1 WAIT, 2 the MINUTE when its CUT began (NONE: not), 3 who cuts it (NONE).",
            DayCallEdges::fate);
        edges.says("BAD.", DayCallEdges::fateOfNobody);
        at(edges);
        edges.section("Promise 16");
        edges.says("THE DAY: 0 COIN, 1 WAITS of all together, 2 the most, 3 TURNED, 4 GONE, 5 cut, 6 in vain, 7 QUARRELS,",
            DayCallEdges::day);
        edges.says("8 MINUTES in which CUTTER 2 cut (till 239).", DayCallEdges::minutesOfThird);
        edges.says("BAD.", d -> Refusals.answer(d, BAD, "day"));
        edges.section("Promise 17");
        edges.says("ONE MORE (as person()): WAIT (0), FATE (1).", DayCallEdges::more);
        edges.says("BAD;", d -> Refusals.answer(d, BAD, "more"));
        edges.says("FULL.", DayCallEdges::noMore);
        edges.section("Promise 18");
        edges.says("TELL: the time (0), how many feel LIED TO (1).", DayCallEdges::tellTime);
        edges.says("BAD;", d -> Refusals.answer(d, BAD, "tell"));
        edges.says("NONE: nobody waited or was cut.", DayCallEdges::nothingToTell);
        edges.section("Promise 19");
        edges.says("CHOOSERS COST.", DayCallEdges::choosers);
        edges.section("Promise 20");
        edges.says("THE THIRD'S TIME for a fee (0 .. 99): THIRD (0), the sum (1).", DayCallEdges::third);
        edges.says("BAD.", d -> Refusals.answer(d, BAD, "third"));
        edges.section("Promise 21");
        edges.says("THE LAST for a told MINUTE (1 .. 239).", DayCallEdges::last);
        edges.says("BAD.", d -> Refusals.answer(d, BAD, "last"));
        edges.section("Promise 22");
        edges.says("WORTH of a CUTTER.", DayCallEdges::worth);
        edges.says("BAD less 100000.", d -> Refusals.answer(d, -100001, "worth"));
        edges.section("Promise 23");
        edges.says("By a RULE: 0 WAITS together, 1 the most, 2 COIN.", DayCallEdges::rule);
        edges.says("BAD.", d -> Refusals.answer(d, BAD, "rule"));
        edges.section("Promise 24");
        edges.says("BEST RULES, as a set.", DayCallEdges::best);
    }

    private static void at(Edges edges) {
        edges.section("Promise 15");
        edges.says("In a MINUTE (behind all four):", DayCallEdges::behindAllFour);
        edges.says("0 how many of PEOPLE wait,", DayCallEdges::howManyWait);
        edges.says("1 how many sit on SEATS (out ones not; GROUPED ones as many as they are),", DayCallEdges::howManySit);
        edges.says("2 who is cut by CUTTER 0, 3 by 1, 4 by 2 (NONE: nobody).", DayCallEdges::whoIsCut);
        edges.says("BAD.", d -> Refusals.answer(d, BAD, "at"));
    }

    private static NodBench busy(String others) {
        return Due.with("0p3;0p3;" + others);
    }

    private static void fate(Due due) {
        NodBench x = busy("1t0:9;2c0:2;3g1:4;4p0;5p0");
        due.fate("by 0", x, 0, CUT, 0, 0, 0);
        due.fate("by 1", x, 1, CUT, 0, 0, 1);
        due.fate("GONE", x, 2, GONE, 9, NONE, NONE);
        due.fate("in vain", x, 3, VAIN, 238, NONE, NONE);
        due.fate("waits", x, 4, CUT, 27, 30, 0);
        due.fate("TURNED? There is one SEAT", x, 5, CUT, 32, 36, 1);
        due.fate("TURNED", x, 6, TURNED, 0, NONE, NONE);
        x.set(5, 1);
        due.fate("by 2", x, 2, CUT, 0, 1, 2);
    }

    private static void fateOfNobody(Due due) {
        Refusals.answer(due, BAD, "fate");
        NodBench x = new NodBench();
        for (int what = 0; what < 4; what++) {
            due.is("nobody is told", x.fate(0, what), BAD);
        }
        x.person(0, 0, 0, 0);
        due.is("nothing to tell", x.fate(0, 4), BAD);
        due.is("nothing to tell", x.fate(0, -1), BAD);
        due.is("the next", x.fate(1, 0), BAD);
    }

    private static void behindAllFour(Due due) {
        NodBench x = busy("5t0:4;5p0;5o0:99;30p0;235p3");
        due.is("who came now waits", x.at(5, 0), 3);
        due.is("before it came", x.at(4, 0), 0);
        due.is("who is GONE now does not", x.at(9, 0), 2);
        due.is("who is out now does not sit", x.at(10, 1), 1);
        due.is("who is taken now is cut", x.at(30, 2), 3);
        due.is("and does not wait; who came now does", x.at(30, 0), 2);
        due.is("the first MINUTE", x.at(0, 2), 0);
        due.is("the last MINUTE", x.at(239, 2), 6);
    }

    private static void howManyWait(Due due) {
        NodBench x = busy("1p0;2g0:4;3o0:20;4p0;5p0");
        due.is("one", x.at(1, 0), 1);
        due.is("GROUPED ones once", x.at(2, 0), 2);
        due.is("out ones, too", x.at(10, 0), 3 + 1);
        due.is("TURNED ones not", x.at(5, 0), 4);
        due.is("some are taken", x.at(36, 0), 2);
        due.is("nobody", x.at(239, 0), 0);
        due.is("nobody at all", new NodBench().at(0, 0), 0);
        NodBench y = Due.with("0p0;0p0;0p0;0p0;0p0;0p0", "0p0;0p0;0p0;0p0;0p0;0p0");
        y.set(0, 12);
        due.is("ten of twelve", y.at(0, 0), 10);
        y.strike(11);
        due.is("nine of eleven", y.at(0, 0), 9);
    }

    private static void howManySit(Due due) {
        NodBench x = busy("1p0;2g0:4;3o0:20;4p0");
        due.is("one", x.at(1, 1), 1);
        due.is("GROUPED ones as many as they are", x.at(2, 1), 5);
        due.is("one who is not out yet", x.at(7, 1), 7);
        due.is("out ones not", x.at(8, 1), 6);
        due.is("out ones not", x.at(27, 1), 6);
        due.is("one is back", x.at(28, 1), 7);
        due.is("one is taken", x.at(30, 1), 6);
        due.is("four are taken", x.at(36, 1), 2);
        due.is("nobody", x.at(239, 1), 0);
        NodBench y = Due.with("233p0;233p0;234o0:99;235o0:99");
        due.is("one goes out in the last MINUTE", y.at(238, 1), 2);
        due.is("one goes out in the last MINUTE", y.at(239, 1), 1);
    }

    private static void whoIsCut(Due due) {
        NodBench x = Due.with("0p0;0p0;0p0;200p0");
        x.set(5, 1);
        for (int cutter = 0; cutter < 3; cutter++) {
            int need = new int[] {10, 12, 20}[cutter];
            due.is("by " + cutter, x.at(0, 2 + cutter), cutter);
            due.is("till then", x.at(need - 1, 2 + cutter), cutter);
            due.is("no more", x.at(need, 2 + cutter), NONE);
        }
        due.is("again", x.at(200, 2), 3);
        due.is("not by 1", x.at(200, 3), NONE);
        due.is("not by 2", x.at(200, 4), NONE);
        for (int cutter = 0; cutter < 3; cutter++) {
            due.is("nobody", new NodBench().at(0, 2 + cutter), NONE);
        }
    }

    private static void day(Due due) {
        NodBench x = busy("1t0:9;2c0:2;3g1:4;4p0;5p0");
        int[] want = {30 + 30 + 60 + 10, 9 + 238 + 27 + 32, 238, 1, 1, 4, 1, 0};
        for (int what = 0; what < 8; what++) {
            due.is("day " + what, x.day(what), want[what]);
        }
        NodBench y = busy("1p0;2t0:99;3l0:3");
        Due.manners(y, "pt,tl,lp");
        due.is("QUARRELS", y.day(7), 1);
        NodBench v = Due.with("9p0;0p3;0p3");
        due.is("number 0 waits: together", v.day(1), 21);
        due.is("number 0 waits: the most", v.day(2), 21);
        due.is("number 0 waits: then", v.at(9, 0), 1);
        due.is("number 0 waits: on a SEAT", v.at(9, 1), 1);
        NodBench z = Due.with("0c0:2;0c0:2;0c0:2;0c0:2;0c0:2;0c0:2", "0c0:2;0c0:2;0c0:2;0c0:2;0c0:2;0c0:2");
        z.set(0, 12);
        due.is("twelve in vain", z.day(6), 12);
        due.is("all day long", z.day(1), 2880);
        due.is("the most", z.day(2), 240);
        for (int what = 0; what <= 8; what++) {
            due.is("nobody: day " + what, new NodBench().day(what), 0);
        }
    }

    private static void minutesOfThird(Due due) {
        NodBench x = Due.with("0c0:2;0c1:2;0p0;0p0");
        due.is("it never cuts", x.day(8), 0);
        x.set(5, 1);
        due.is("TALK, too", x.day(8), 25 + 35);
        for (int minute = 200; minute < 240; minute++) {
            NodBench y = new NodBench();
            y.set(5, 0);
            y.set(4, 0);
            y.person(minute, 1, 0, 2);
            due.is("20 MINUTES from " + minute, y.day(8), Math.min(20, 240 - minute));
        }
        NodBench z = busy("0g3:4");
        z.set(5, 1);
        due.is("four times 60: till 239", z.day(8), 240);
        z.set(3, 10);
        due.is("a REST is not cut", z.day(8), 240);
    }

    private static void more(Due due) {
        int[][] rows = {{1, 0, 0, 0, 29, CUT}, {1, 1, 0, 2, 239, VAIN}, {1, 2, 0, 4, 29, CUT}, {1, 3, 0, 30, 35, CUT},
            {1, 4, 0, 0, 29, CUT}, {1, 5, 0, 28, 28, GONE}, {239, 0, 3, 0, 0, CUT}, {0, 0, 0, 0, 30, CUT}};
        NodBench x = busy("36p0");
        x.strike(2);
        for (int[] row : rows) {
            due.is("WAIT of KIND " + row[1], x.more(row[0], row[1], row[2], row[3], 0), row[4]);
            due.is("FATE of KIND " + row[1], x.more(row[0], row[1], row[2], row[3], 1), row[5]);
        }
        x.set(0, 2);
        due.is("TURNED", x.more(1, 2, 0, 3, 1), TURNED);
        due.is("TURNED: no WAIT", x.more(1, 2, 0, 3, 0), 0);
        due.is("two are told", x.count(0), 2);
        due.is("two come", x.day(5), 2);
    }

    private static void noMore(Due due) {
        Refusals.answer(due, FULL, "more");
        NodBench x = Due.with("0p0;0p0;0p0;0p0;0p0;0p0", "0p0;0p0;0p0;0p0;0p0");
        due.is("a twelfth", x.more(239, 0, 0, 0, 1), CUT);
        due.is("still room", x.person(0, 0, 0, 0), 11);
        due.is("a thirteenth", x.more(239, 0, 0, 0, 1), FULL);
        due.is("BAD goes ahead", x.more(239, 0, 0, 1, 1), BAD);
    }

    private static void tellTime(Due due) {
        NodBench x = busy("9p0;8p0;10p0");
        due.is("of 0, 0, 27, 22 and 30", x.tell(0), 20);
        due.is("two", x.tell(1), 2);
        due.is("one at once: time", Due.with("0p0").tell(0), 0);
        due.is("one at once: nobody", Due.with("0p0").tell(1), 0);
    }

    private static void nothingToTell(Due due) {
        NodBench x = new NodBench();
        due.is("nobody: time", x.tell(0), NONE);
        due.is("nobody: lies", x.tell(1), NONE);
        Due.people(x, "0g0:4;9g0:4");
        x.set(0, 3);
        due.is("all TURNED: time", x.tell(0), NONE);
        due.is("all TURNED: lies", x.tell(1), NONE);
        due.is("BAD goes ahead", x.tell(2), BAD);
        x.person(239, 0, 0, 0);
        due.is("one is cut", x.tell(0), 0);
        x.strike(2);
        x.person(239, 1, 0, 2);
        due.is("one waits", x.tell(0), 0);
        NodBench y = busy("1t0:1");
        y.strike(0);
        y.strike(0);
        y.set(0, 7);
        Due.people(y, "0g3:2;0g3:2");
        due.is("one is GONE", y.tell(1), 0);
    }

    private static void choosers(Due due) {
        due.is("nobody", new NodBench().choosers(), 0);
        NodBench x = Due.with("0c0:1;0p0;1p0;2p0");
        due.is("9 and 15, for 9 and 10", x.choosers(), 9 + 15 - 9 - 10);
        due.is("nothing is other then", x.day(1), 9 + 15);
        NodBench y = Due.with("0c0:1;0c0:1;0c0:1;5p0");
        due.is("below 0 is no refusal", y.choosers(), -7);
        NodBench z = Due.with("0c0:0;0p3;0p3;0p3;0p3;0p3", "0p0;0p0;0p0;0p0;0p0;0p0");
        z.set(0, 12);
        due.is("twelve", z.choosers(), costOfTalk(z));
        z.strike(11);
        due.is("eleven", z.choosers(), costOfTalk(z));
    }

    /** WAITS of those behind number 0, who chooses CUTTER 0 and is cut at once, less those if he were PLAIN. */
    private static int costOfTalk(NodBench x) {
        int with = x.day(1);
        x.set(4, 0);
        int without = x.day(1);
        x.set(4, 5);
        return with - without;
    }

    private static void third(Due due) {
        NodBench x = Due.with("0p0;0p0;0p0;0p0");
        int[][] want = {{0, 2, 10}, {1, 13, 22}, {99, 13, 22}};
        for (int[] row : want) {
            due.is("THIRD for " + row[0], x.third(row[0], 0), row[1]);
            due.is("sum for " + row[0], x.third(row[0], 1), row[2]);
        }
        x.set(5, 4);
        due.is("whatever THIRD is", x.third(0, 0), 2);
        due.is("it stays", x.set(5, 4), 4);
        NodBench y = Due.with("0c3:2;0c3:2;0c3:2;0c3:2;0c3:2;0c3:2", "0c3:2;0c3:2;0c3:2;0c3:2;0c3:2;0c3:2");
        y.set(0, 12);
        due.is("a great sum", y.third(99, 1), 2880);
        due.is("nobody: sum", new NodBench().third(99, 1), 0);
    }

    private static void last(Due due) {
        NodBench x = Due.with("0p0;228p0");
        due.is("1", x.last(1), 0);
        due.is("10", x.last(10), 228);
        due.is("237", x.last(237), 228);
        due.is("238", x.last(238), 240);
        due.is("239", x.last(239), 240);
        NodBench y = Due.with("0p0");
        y.cut(0, 0, 1);
        due.is("a CUT of one MINUTE is over by 1", y.last(1), 240);
    }

    private static void worth(Due due) {
        NodBench x = Due.with("0p0;0c3:1;0g2:3");
        due.is("0 takes those that come first; 1 takes them else", x.worth(0), 0);
        due.is("his CHOOSING one", x.worth(1), 30);
        due.is("2 never cuts", x.worth(2), 0);
        due.is("nothing is other then", x.day(0), 10 + 30 + 60);
    }

    private static void rule(Due due) {
        NodBench x = busy("1p3;2p0;3t0:99");
        Due.manners(x, "tp");
        int[][] want = {{29 + 34 + 45, 45, 110}, {27 + 35 + 38, 38, 110}, {28 + 33 + 39, 39, 110}};
        for (int i = 0; i < 9; i++) {
            due.is("RULE " + i / 3 + ", " + i % 3, x.rule(i / 3, i % 3), want[i / 3][i % 3]);
            due.is("nobody", new NodBench().rule(i / 3, i % 3), 0);
        }
        due.is("RULE is as it was", x.set(7, 1), 1);
        due.is("the day, too", x.day(1), 27 + 35 + 38);
    }

    private static void best(Due due) {
        due.is("all", new NodBench().best(), 1 + 2 + 4);
        NodBench x = busy("1p3;2p0;3p0");
        due.is("RULE 2", x.best(), 4);
        NodBench y = busy("1p3;2p0;3t0:99");
        Due.manners(y, "tp");
        due.is("RULE 1", y.best(), 2);
        NodBench z = busy("1p0;2t0:99;3t3:99");
        Due.manners(z, "tp");
        due.is("RULES 0 and 2", z.best(), 1 + 4);
        due.is("RULE is as it was", z.set(7, 1), 1);
    }
}
