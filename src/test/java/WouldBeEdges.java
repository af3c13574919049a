/** The Terms' third part: FATE, what would be, WORDS, TEXTS. */
final class WouldBeEdges {
    private static final int BAD = NodBench.BAD, NONE = NodBench.NONE, FULL = NodBench.FULL;
    private static final int TURNED = 1, GONE = 2, CUT = 3, VAIN = 4;

    private WouldBeEdges() {
    }

    static void tell(Edges edges) {
        edges.section("Terms");
        edges.heading("==== 3 ");
        fates(edges);
        times(edges);
        doors(edges);
        edges.says("WORTH of a CUTTER: COIN of the day less COIN without it (it is never free).", WouldBeEdges::worth);
        edges.says("RULES held against each other: by each (0 .. 2) WAITS of all, together; the most WAIT of one; COIN.",
            WouldBeEdges::rules);
        edges.says("BEST are those that no other one of them is as good as or better in all three (less, less, more) and better"
            + " in one.", WouldBeEdges::best);
        words(edges);
        texts(edges);
        headings(edges);
    }

    private static void headings(Edges edges) {
        edges.heading("Ahead of the calls `set`, `cut`, `price`, `person`, `told`, `strike`, `type`, `manners`, `before`,"
            + " `rounds`, `people`, `count` the interface says: ---- 1 the shop, people.");
        edges.heading("Ahead of the calls `fate`, `at`, `day` the interface says: ---- 2 the day.");
        edges.heading("Ahead of the calls `more`, `tell`, `choosers`, `third`, `last`, `worth`, `rule`, `best`, `word`, `hush`,"
            + " `drops`, `first`, `orders`, `image`, `restore` the interface says: ---- 3 what would be.");
        edges.heading("Ahead of the calls `crowd`, `sheet`, `drop`, `item`, `film` the interface says: ---- 4 ");
        edges.says("sheets 0 .. 3:", WouldBeEdges::fourSheets);
        edges.says("nothing (at first),", WouldBeEdges::nothingAtFirst);
        edges.says("or a row of a LANE: 0 bytes, 1 shorts, 2 ints,", WouldBeEdges::lanes);
        edges.says("of 0 to 24 items.", WouldBeEdges::items);
    }

    private static NodBench busy(String others) {
        return Due.with("0p3;0p3;" + others);
    }

    // ---- FATE, ONE MORE, TELL

    private static void fates(Edges edges) {
        edges.says("FATE of one: 0 not told,", WouldBeEdges::notTold);
        edges.says("1 TURNED,", WouldBeEdges::turned);
        edges.says("2 GONE,", WouldBeEdges::gone);
        edges.says("3 it has had its CUT or is in it,", WouldBeEdges::hadItsCut);
        edges.says("4 it waited in vain.", WouldBeEdges::inVain);
        edges.says("ONE MORE that is told with all others: its WAIT and FATE (as if it were the last of PEOPLE).",
            WouldBeEdges::oneMore);
    }

    private static void notTold(Due due) {
        NodBench x = new NodBench();
        due.is("nobody is told", x.fate(0, 0), BAD);
        x.person(239, 0, 0, 0);
        due.is("told, so not 0", x.fate(0, 0), CUT);
        due.is("the next is not told", x.fate(1, 0), BAD);
        x.strike(0);
        due.is("not told any more", x.fate(0, 0), BAD);
    }

    private static void turned(Due due) {
        NodBench x = Due.with("0g0:3;0g0:4;0p0");
        x.set(0, 3);
        due.is("too many", x.fate(1, 0), TURNED);
        due.is("no SEAT", x.fate(2, 0), TURNED);
        due.is("two of them", x.day(3), 2);
        due.is("one more", x.more(0, 0, 0, 0, 1), TURNED);
    }

    private static void gone(Due due) {
        NodBench x = busy("1t0:1;1t0:99");
        due.is("GONE", x.fate(2, 0), GONE);
        due.is("not GONE", x.fate(3, 0), CUT);
        due.is("one of them", x.day(4), 1);
        due.is("one more", x.more(239, 5, 0, 1, 1), CUT);
        due.is("one more", x.more(5, 5, 0, 2, 1), GONE);
    }

    private static void hadItsCut(Due due) {
        NodBench x = Due.with("0p0;238p3;239p3");
        due.is("had it", x.fate(0, 0), CUT);
        due.is("is in it behind 239", x.fate(1, 0), CUT);
        due.is("began in 239", x.fate(2, 0), CUT);
        due.is("three of them", x.day(5), 3);
    }

    private static void inVain(Due due) {
        NodBench x = Due.with("239p0;239p0;239p0;239t0:1;0c0:2");
        due.is("for a MINUTE", x.fate(2, 0), VAIN);
        due.is("TIRED, but not yet GONE", x.fate(3, 0), VAIN);
        due.is("all the day", x.fate(4, 0), VAIN);
        due.is("three of them", x.day(6), 3);
    }

    private static void oneMore(Due due) {
        NodBench x = Due.with("5p0;5p0");
        due.is("of like ones the last", x.more(5, 0, 0, 0, 0), 10);
        due.is("it is cut", x.more(5, 0, 0, 0, 1), CUT);
        due.is("it comes before them", x.more(4, 0, 0, 0, 0), 0);
        due.is("it lets nobody wait", x.fate(1, 1), 0);
        due.is("it is not told", x.count(0), 2);
        x.set(0, 2);
        due.is("no SEAT is left to the last", x.more(5, 0, 0, 0, 1), TURNED);
        due.is("so it does not wait", x.more(5, 0, 0, 0, 0), 0);
        due.is("alone", new NodBench().more(239, 2, 3, 4, 1), CUT);
        NodBench y = Due.with("0p0;0p0;0p0;0p0;0p0;0p0", "0p0;0p0;0p0;0p0;0p0");
        y.set(0, 12);
        due.is("the twelfth, at 60 by 0", y.more(0, 0, 0, 0, 0), 60);
        NodBench z = busy("2l0:1");
        due.is("like PLACES: the last", z.more(3, 4, 0, 1, 0), 36 - 3);
        due.is("called before", z.more(3, 4, 0, 0, 0), 30 - 3);
    }

    private static void times(Edges edges) {
        edges.says("TELL: the time (0, 5, .. 60) by which the fewest", WouldBeEdges::tellTimes);
        edges.says("of those of FATE 2 to 4 feel LIED TO", WouldBeEdges::whoFeels);
        edges.says("(their WAIT is more than 10 MINUTES off),", WouldBeEdges::moreThanTenOff);
        edges.says("of like ones the least.", WouldBeEdges::leastTime);
        edges.says("CHOOSERS COST: WAITS of all that are not CHOOSING, together, less what these would be, if all CHOOSING ones"
            + " were PLAIN.", WouldBeEdges::choosersCost);
        edges.says("THE THIRD'S TIME: THIRD (0 .. 13) by which WAITS of all,", WouldBeEdges::thirdWaits);
        edges.says("and a told fee times the MINUTES in which CUTTER 2 cuts (as day() tells them), are least together,",
            WouldBeEdges::thirdFee);
        edges.says("of like ones the greatest.", WouldBeEdges::greatestThird);
    }

    /** Three who wait as long as told, and two who are cut at once, till 89 and 107. */
    private static NodBench threeWait(int wait) {
        NodBench x = Due.with("0g3:3;0g3:3");
        x.set(0, 12);
        for (int i = 0; i < 3; i++) {
            x.person(1, 5, 0, wait);
        }
        return x;
    }

    private static void tellTimes(Due due) {
        for (int wait = 1; wait <= 80; wait++) {
            NodBench x = threeWait(wait);
            // With 10 those that were cut at once do not feel LIED TO.
            int time = wait <= 10 ? 0 : (wait - 10 + 4) / 5 * 5;
            boolean isTooLong = time > 60;
            due.is("three wait " + wait, x.tell(0), isTooLong ? 0 : time);
            due.is("LIED TO, three wait " + wait, x.tell(1), isTooLong ? 3 : time <= 10 ? 0 : 2);
        }
    }

    private static void whoFeels(Due due) {
        NodBench x = Due.with("0p0;0p0;0g0:4;0g0:4;0g0:4");
        x.set(0, 2);
        due.is("TURNED ones do not feel", x.tell(1), 0);
        due.is("nothing is told to them", x.tell(0), 0);
        NodBench y = busy("1t0:20;1t0:21;1t0:22");
        due.is("GONE ones do", y.tell(1), 2);
        due.is("10 is near those that were cut, and one of these", y.tell(0), 10);
        NodBench z = Due.with("180c0:2;185c0:2;190c0:2");
        due.is("those in vain do", z.tell(0), 50);
        due.is("50, 55 and 60", z.tell(1), 0);
        NodBench v = Due.with("0p0;0p0;0p0");
        v.cut(0, 0, 20);
        v.cut(1, 0, 30);
        due.is("those that are cut do", v.tell(0), 10);
        due.is("two for 0 and one for 20", v.tell(1), 0);
    }

    private static void moreThanTenOff(Due due) {
        NodBench x = Due.with("0p3;0p3;0p0");
        x.cut(0, 3, 10);
        due.is("10 off is no lie", x.tell(1), 0);
        due.is("at 0", x.tell(0), 0);
        x.cut(0, 3, 11);
        due.is("11 off is one: 5 is better", x.tell(0), 5);
        x.cut(0, 3, 20);
        due.is("10 is 10 off to both sides", x.tell(0), 10);
        due.is("nobody", x.tell(1), 0);
        x.cut(0, 3, 21);
        due.is("21 is too far from 0", x.tell(1), 1);
        due.is("two against one", x.tell(0), 0);
    }

    private static void leastTime(Due due) {
        NodBench x = Due.with("0p0");
        due.is("0, 5 and 10 are alike", x.tell(0), 0);
        NodBench y = Due.with("200c0:2");
        due.is("30 to 50 are alike", y.tell(0), 30);
        NodBench z = Due.with("0c0:2");
        due.is("all are alike", z.tell(0), 0);
        due.is("and lie", z.tell(1), 1);
        NodBench v = Due.with("0p0;180c0:2");
        due.is("one here or one there", v.tell(0), 0);
        due.is("one", v.tell(1), 1);
    }

    private static void choosersCost(Due due) {
        due.is("nobody", new NodBench().choosers(), 0);
        due.is("none of them CHOOSING", Due.with("0p0;0p0;0p0").choosers(), 0);
        due.is("all of them CHOOSING", Due.with("0c0:1;0c0:1;0c0:2").choosers(), 0);
        NodBench x = Due.with("0c0:0;0p3;1p0");
        due.is("TALK alone costs", x.choosers(), 5);
        x.set(4, 0);
        due.is("without it nothing", x.choosers(), 0);
        NodBench y = Due.with("0c0:1;0c0:1;0c0:1;5p0");
        due.is("they wait for 1, so 0 is free: below 0", y.choosers(), 0 - 7);
        NodBench z = Due.with("0p3;0p3;1p0;2c0:0");
        Due.manners(z, "cp");
        due.is("PLAIN ones have a PLAIN one's MANNERS, too", z.choosers(), 35 - 29);
        due.is("they still choose", z.told(3, 1), 1);
        NodBench u = Due.with("5p0;0c0:0;0p3");
        due.is("number 0 waits for one who talks", u.choosers(), 10 - 5);
        String others = "1g0:2;2t0:99;3o0:9;4l0:0";
        NodBench t = Due.with("0c0:0;0p3", others);
        due.is("the others stay as they are", t.choosers(), t.day(1) - Due.with("0p0;0p3", others).day(1));
        NodBench v = Due.with("0c0:2;0c0:2;0c0:2;0c0:2;1p0");
        v.set(0, 4);
        due.is("TURNED by them: no WAIT; else one till 20", v.choosers(), 0 - 19);
    }

    private static void thirdWaits(Due due) {
        NodBench x = Due.with("0p0;0p0;0p0;0p0");
        due.is("two wait: both are less by 1 alone", x.third(0, 0), 2);
        due.is("10 less", x.third(0, 1), 10);
        NodBench y = Due.with("0c0:2;0c0:2;0c0:2;0c0:2;0c0:2;0c0:2", "0c0:2;0c0:2;0c0:2;0c0:2;0c0:2;0c0:2");
        y.set(0, 12);
        y.cut(2, 0, 60);
        y.set(4, 20);
        due.is("three are cut, the fourth from 240 on is not: 10 or fewer", y.third(0, 0), 10);
        due.is("0, 80 and 160; nine in vain", y.third(0, 1), 80 + 160 + 9 * 240);
        due.is("THIRD is as it was", y.set(5, 13), 13);
    }

    private static void thirdFee(Due due) {
        NodBench x = Due.with("0p0;0p0;0p0");
        due.is("no fee", x.third(0, 0), 1);
        due.is("no fee: nobody waits", x.third(0, 1), 0);
        due.is("20 MINUTES are dearer than 10", x.third(1, 0), 13);
        due.is("the WAIT alone", x.third(1, 1), 10);
        x.cut(2, 0, 3);
        due.is("3 times 3", x.third(3, 0), 1);
        due.is("3 times 3", x.third(3, 1), 9);
        due.is("3 times 4", x.third(4, 0), 13);
        due.is("99 times 3", x.third(99, 1), 10);
        NodBench y = Due.with("237p0;237p0;237p0");
        y.set(4, 0);
        due.is("3 MINUTES till 239", y.third(0, 1), 0);
        due.is("3 MINUTES till 239, as dear as to wait", y.third(1, 0), 13);
        due.is("3 MINUTES till 239, as dear as to wait", y.third(1, 1), 3);
        // 2 takes one at 230, so that 0 takes the others at 232 and 233: else one at 232, and none behind him.
        NodBench z = Due.with("222p0;222p3;230p0;230p1;230p1");
        z.cut(0, 1, 1);
        z.cut(2, 0, 60);
        due.is("10 MINUTES of 60 till 239", z.third(1, 0), 3);
        due.is("10 MINUTES, and WAITS of 2 and 3", z.third(1, 1), 10 + 2 + 3);
        z.set(5, 3);
        due.is("as day() tells them", z.day(8), 10);
        due.is("dearer", z.third(2, 1), 2 + 10 + 10);
    }

    private static void greatestThird(Due due) {
        due.is("nobody", new NodBench().third(0, 0), 13);
        due.is("one alone", Due.with("0p0").third(0, 0), 13);
        NodBench x = Due.with("0p0;0p0;0p0");
        x.cut(2, 0, 5);
        due.is("5 times 2 are 10 MINUTES", x.third(2, 0), 13);
        due.is("alike", x.third(2, 1), 10);
        NodBench y = Due.with("0c0:2");
        due.is("1 and 0 are alike", y.third(0, 0), 1);
    }

    // ---- SHUT, WORTH, RULES

    private static void doors(Edges edges) {
        edges.says("SHUT at a MINUTE: who would come then or later does not come.", WouldBeEdges::shut);
        edges.says("THE LAST: the greatest MINUTE (0 .. 240) to SHUT at so that", WouldBeEdges::greatestMinute);
        edges.says("all CUTS that begin are over by a told MINUTE (that one is free of them),", WouldBeEdges::overByThen);
        edges.says("and nobody waits in vain", WouldBeEdges::nobodyInVain);
        edges.says("(240: it is not SHUT).", WouldBeEdges::notShut);
    }

    private static void shut(Due due) {
        NodBench x = Due.with("50p0;50p0;60p0");
        due.is("who comes at 60 would be late", x.last(69), 60);
        due.is("who comes at 50 would be late", x.last(61), 50);
        due.is("told still", x.count(0), 3);
        due.is("not SHUT", x.day(5), 3);
    }

    private static void greatestMinute(Due due) {
        due.is("nobody may come", Due.with("0p0").last(9), 0);
        due.is("up to 239", Due.with("0p0;239p0").last(239), 239);
        NodBench x = Due.with("0p0;100p0;200p0");
        due.is("just before the third", x.last(209), 200);
        due.is("just before the second", x.last(109), 100);
        // Without the TIRED one the CHOOSING one would wait in vain: to SHUT before it comes is no good.
        NodBench y = busy("1c0:2;5t0:1;239p0");
        y.set(5, 2);
        due.is("the greatest, though lesser ones would not do", y.last(239), 239);
        due.is("36 is free of all", y.last(36), 239);
        due.is("35 is not", y.last(35), 0);
    }

    private static void overByThen(Due due) {
        NodBench x = Due.with("10p0");
        due.is("20 is free of it", x.last(20), 240);
        due.is("19 is not", x.last(19), 10);
        due.is("10 is not", x.last(10), 10);
        due.is("9 is, but then it comes", x.last(9), 10);
        NodBench y = Due.with("229p0;0p0");
        due.is("over at 239", y.last(239), 240);
        due.is("not at 238", y.last(238), 229);
        NodBench z = Due.with("230p0");
        due.is("over behind 239", z.last(239), 230);
        NodBench v = busy("1t0:5;200g3:4");
        v.set(0, 3);
        due.is("who is GONE or TURNED may come", v.last(36), 240);
        due.is("1 is busy at 35", v.last(35), 0);
        v.set(3, 10);
        due.is("a REST is no CUT", v.last(36), 240);
    }

    private static void nobodyInVain(Due due) {
        NodBench x = Due.with("50c0:2;60p0");
        due.is("he would wait in vain", x.last(239), 50);
        NodBench y = Due.with("0p0;239p0");
        y.cut(0, 0, 1);
        due.is("239 begun, over at 240", y.last(239), 239);
        NodBench z = busy("1t0:5;2c0:2");
        due.is("he who is GONE is not in vain, the other one is", z.last(239), 2);
        z.strike(3);
        due.is("GONE is not in vain", z.last(239), 240);
    }

    private static void notShut(Due due) {
        due.is("nobody", new NodBench().last(1), 240);
        NodBench x = Due.with("0p0;0p0");
        due.is("12 is free of them", x.last(12), 240);
        due.is("11 is not", x.last(11), 0);
        x.set(0, 1);
        due.is("one of them is TURNED", x.last(10), 240);
    }

    private static void worth(Due due) {
        for (int cutter = 0; cutter < 3; cutter++) {
            due.is("nobody", new NodBench().worth(cutter), 0);
            due.is("one alone", Due.with("0p3").worth(cutter), 0);
        }
        NodBench x = Due.with("239p0;239p1;239p2;239p3");
        due.is("0 takes the first, else 1 does", x.worth(0), 15);
        due.is("1 takes the second", x.worth(1), 15);
        due.is("2 takes nobody", x.worth(2), 0);
        x.set(5, 1);
        due.is("2 takes the third", x.worth(2), 20);
        due.is("without 0 the third is left", x.worth(0), 20);
        due.is("as it was", x.day(0), 10 + 15 + 20);
        NodBench y = Due.with("0c0:0;0c1:1;0c2:2");
        due.is("who waits for 0 alone", y.worth(0), 10);
        due.is("who waits for 1 alone", y.worth(1), 15);
        y.set(5, 1);
        due.is("who waits for 2 alone", y.worth(2), 20);
    }

    private static void rules(Due due) {
        NodBench x = Due.with("0p3;0p3;1p3;2p0;3t0:99");
        Due.manners(x, "tp");
        int[][] want = {{29 + 34 + 45, 45, 110}, {27 + 35 + 38, 38, 110}, {28 + 33 + 39, 39, 110}};
        for (int now = 0; now < 3; now++) {
            x.set(7, now);
            for (int rule = 0; rule < 3; rule++) {
                for (int what = 0; what < 3; what++) {
                    due.is("RULE " + rule + ", " + what, x.rule(rule, what), want[rule][what]);
                }
            }
            due.is("the day is by RULE " + now, x.day(1), want[now][0]);
        }
        due.is("nobody", new NodBench().rule(2, 1), 0);
    }

    private static void best(Due due) {
        due.is("nobody: all are alike", new NodBench().best(), 7);
        due.is("one: all are alike", Due.with("0p3").best(), 7);
        NodBench x = Due.with("0p3;0p3;1p3;2p0;3t0:99");
        Due.manners(x, "tp");
        due.is("as good together, and better in the most", x.best(), 2);
        x.set(7, 2);
        due.is("whatever RULE is", x.best(), 2);
        NodBench y = Due.with("0p3;0p3;1p3;2p0;3p0");
        due.is("two are alike, and less good", y.best(), 4);
        NodBench z = Due.with("0p3;0p3;1p0;2t0:99;3t3:99");
        Due.manners(z, "tp");
        due.is("two are alike, and better", z.best(), 1 + 4);
        NodBench v = Due.with("0p3;0p3;1p3;2p0;3t1:34");
        Due.manners(v, "tp");
        due.is("more COIN by 1 and 2", v.best(), 1 + 4);
        due.is("0 has less COIN", v.rule(0, 2), 100);
        due.is("0 has less WAITS than 1", v.rule(0, 0), 29 + 34 + 34);
        due.is("1 is no better than 2 in any", v.rule(1, 0), 27 + 35 + 43);
        NodBench u = Due.with("0p3;0p3;1t0:99;2p3;3p0;4p1");
        due.is("as good in the most and in COIN, but not together", u.best(), 4);
        due.is("together by 0", u.rule(0, 0), 29 + 34 + 37 + 46);
        due.is("together by 2", u.rule(2, 0), 29 + 36 + 33 + 46);
        NodBench t = Due.with("0p3;0p3;1p1", "2p0;3p3;4t2:99");
        Due.manners(t, "tp");
        due.is("0 is better than both in two", t.best(), 1);
        due.is("together by 0", t.rule(0, 0), 29 + 34 + 42 + 44);
        due.is("together by 1", t.rule(1, 0), 26 + 35 + 48 + 51);
        due.is("together by 2", t.rule(2, 0), 28 + 35 + 36 + 51);
    }

    // ---- WORDS

    private static void words(Edges edges) {
        edges.says("WORDS 0 .. 11, as they come, tell that one of PEOPLE was there ahead of another one.", WouldBeEdges::twelveWords);
        edges.says("They can be TRUE together, if there is an order of PEOPLE by which all are.", WouldBeEdges::trueTogether);
        edges.says("DROPS: the fewest that must not be true so that the others can be TRUE together;", WouldBeEdges::fewest);
        edges.says("of like ones the least set.", WouldBeEdges::leastSet);
        edges.says("FIRST are those who may be the first of all by some order that makes all but DROPS true.",
            WouldBeEdges::firsts);
        edges.says("ORDERS of told PEOPLE (a set; 8 at most) are how many orders of these", WouldBeEdges::ordersOfEight);
        edges.says("the others (of WORDS among them, without DROPS) let.", WouldBeEdges::ordersLet);
    }

    /** So many PEOPLE, and these WORDS: "01" tells that 0 was there ahead of 1; "b" is 11. */
    private static NodBench said(int people, String words) {
        NodBench x = new NodBench();
        for (int i = 0; i < people; i++) {
            x.person(0, 0, 0, 0);
        }
        for (String word : words.split(" ")) {
            if (!word.isEmpty()) {
                x.word(Character.digit(word.charAt(0), 16), Character.digit(word.charAt(1), 16));
            }
        }
        return x;
    }

    private static void twelveWords(Due due) {
        NodBench x = said(12, "");
        for (int i = 0; i < 12; i++) {
            due.is("as they come", x.word(i, (i + 1) % 12), i);
        }
        due.is("a thirteenth", x.word(0, 1), FULL);
        due.is("twelve", x.count(2), 12);
        NodBench y = said(2, "01");
        due.is("ahead", y.first(), 1);
        due.is("not behind", said(2, "10").first(), 2);
    }

    private static void trueTogether(Due due) {
        due.is("none", said(3, "").drops(), 0);
        due.is("nobody", new NodBench().drops(), 0);
        due.is("one", said(2, "10").drops(), 0);
        due.is("told twelve times", said(2, "01 01 01 01 01 01 01 01 01 01 01 01").drops(), 0);
        due.is("a line of all, told from behind", said(12, "ab 9a 89 78 67 56 45 34 23 12 01").drops(), 0);
        due.is("two ways to one", said(4, "01 02 13 23 03").drops(), 0);
        due.is("against each other", Integer.bitCount(said(2, "01 10").drops()), 1);
        due.is("a round of all", said(12, "01 12 23 34 45 56 67 78 89 9a ab b0").drops(), 1);
        due.is("a round behind a line", said(5, "01 12 23 34 42").drops(), 4);
    }

    private static void fewest(Due due) {
        due.is("one word that is in two rounds", said(4, "01 12 20 13 30").drops(), 1);
        due.is("one against two", said(2, "01 01 10").drops(), 4);
        due.is("one against eleven", said(2, "01 01 01 01 01 01 01 01 01 01 01 10").drops(), 2048);
        due.is("six against six", said(2, "01 01 01 01 01 01 10 10 10 10 10 10").drops(), 63);
        due.is("two rounds of their own", said(4, "01 10 23 32").drops(), 1 + 4);
        due.is("six rounds of their own", said(12, "01 10 23 32 45 54 67 76 89 98 ab ba").drops(), 0x555);
    }

    private static void leastSet(Due due) {
        due.is("of a round of three the first", said(3, "01 12 20").drops(), 1);
        due.is("the first, whichever it is", said(3, "20 12 01").drops(), 1);
        due.is("one of each two, but not a round", said(3, "01 10 12 21 20 02").drops(), 2 + 4 + 16);
        due.is("not one of the first, if the fewest are others", said(3, "01 01 12 12 20").drops(), 16);
        due.is("a round behind one that is true", said(4, "01 12 21").drops(), 2);
    }

    private static void firsts(Due due) {
        due.is("nobody", new NodBench().first(), 0);
        due.is("one", said(1, "").first(), 1);
        due.is("all twelve", said(12, "").first(), 4095);
        due.is("one behind another one", said(3, "01").first(), 1 + 4);
        due.is("a line", said(12, "ab 9a 89 78 67 56 45 34 23 12 01").first(), 1);
        due.is("without the first WORD of a round", said(3, "01 12 20").first(), 2);
        due.is("DROPS put nobody behind", said(2, "10 01 01").first(), 1);
        due.is("the last one", said(12, "b0 b1 b2 b3 b4 b5 b6 b7 b8 b9 ba").first(), 2048);
    }

    private static void ordersOfEight(Due due) {
        NodBench x = said(12, "");
        int many = 1;
        for (int n = 1; n <= 8; n++) {
            many *= n;
            due.is("of " + n, x.orders((1 << n) - 1), many);
            due.is("of the last " + n, x.orders(((1 << n) - 1) << 12 - n), many);
        }
        due.is("of nine", x.orders(511), BAD);
        due.is("of none", x.orders(0), BAD);
        due.is("of one who is not told", x.orders(1 << 12), BAD);
        due.is("of eight, here and there", x.orders(0x6DB), 40320);
    }

    private static void ordersLet(Due due) {
        NodBench x = said(12, "01 12 23 34 45 56 67");
        due.is("a line", x.orders(255), 1);
        due.is("two that nothing is told of", x.orders(1 + 4), 2);
        due.is("two that one tells of", x.orders(1 + 2), 1);
        due.is("WORDS of others do not count", x.orders(2 + 256), 2);
        due.is("three, and one tells of two", x.orders(1 + 2 + 256), 3);
        due.is("one", x.orders(128), 1);
        NodBench y = said(3, "01 12 20");
        due.is("without the first WORD", y.orders(7), 1);
        due.is("of the dropped WORD's", y.orders(3), 2);
        due.is("of another one's", y.orders(6), 1);
        NodBench z = said(4, "01 01 02 02");
        due.is("told twice", z.orders(7), 2);
        due.is("and one more", z.orders(15), 8);
    }

    // ---- TEXTS

    private static void texts(Edges edges) {
        edges.says("MANNERS are a TEXT: 1 to 8 with , between:", WouldBeEdges::textOfManners);
        edges.says("two letters p c g o l t (KINDS in this order;", WouldBeEdges::twoLetters);
        edges.says("not the same).", WouldBeEdges::notTheSame);
        edges.says("PEOPLE are a TEXT: 1 to 8 with ; between:", WouldBeEdges::textOfPeople);
        edges.says("a number (MINUTE), a KIND's letter, a digit (SORT),", WouldBeEdges::minuteKindSort);
        edges.says("for KINDS but p then : and a number.", WouldBeEdges::thenANumber);
        edges.says("(Numbers are figures, zeros ahead, too.)", WouldBeEdges::figures);
        edges.says("FAULTS: -20 less the place of the first byte", WouldBeEdges::firstByte);
        edges.says("(blanks do not count, but end a number) that can't stand there", WouldBeEdges::blanks);
        edges.says("(the end: how many bytes there are);", WouldBeEdges::end);
        edges.says("of a number that may not be its first byte.", WouldBeEdges::firstByteOfNumber);
    }

    private static void manners(Due due, String text, int want) {
        due.is("MANNERS '" + text + "'", Due.manners(new NodBench(), text), want);
    }

    private static void people(Due due, String text, int want) {
        due.is("PEOPLE '" + text + "'", Due.people(new NodBench(), text), want);
    }

    private static void textOfManners(Due due) {
        String text = "pc,go,ol,lt,tp,pg,co,gl,cl";
        for (int many = 1; many <= 8; many++) {
            manners(due, text.substring(0, 3 * many - 1), many);
            manners(due, text.substring(0, 3 * many), many == 8 ? -20 - 23 : -20 - 3 * many);
        }
        manners(due, text, -20 - 23);
        manners(due, "", -20);
        manners(due, ",pc", -20);
        manners(due, "pc;go", -22);
        manners(due, "pcgo", -22);
        manners(due, "pc,,go", -23);
    }

    private static void twoLetters(Due due) {
        String letters = "pcgolt";
        for (int sign = 32; sign < 127; sign++) {
            char c = (char) sign;
            boolean isLetter = letters.indexOf(c) >= 0;
            if (!isLetter && c != ' ') {
                manners(due, c + "p", -20);
                manners(due, "p" + c, -21);
            }
        }
        for (int kind = 0; kind < 6; kind++) {
            for (int other = 0; other < 6; other++) {
                if (kind != other) {
                    NodBench x = new NodBench();
                    due.is("two letters", Due.manners(x, "" + letters.charAt(kind) + letters.charAt(other)), 1);
                    due.is("KINDS", x.before(kind, other), 1);
                    due.is("KINDS", x.before(other, kind), 0);
                }
            }
        }
        manners(due, "p", -21);
        manners(due, "pcg", -22);
    }

    private static void notTheSame(Due due) {
        for (char c : "pcgolt".toCharArray()) {
            manners(due, "" + c + c, -21);
            manners(due, "pt," + c + c, -24);
        }
    }

    private static void textOfPeople(Due due) {
        String text = "0p0;1p1;2p2;3p3;4p0;5p1;6p2;7p3;8p0";
        for (int many = 1; many <= 8; many++) {
            people(due, text.substring(0, 4 * many - 1), many);
            people(due, text.substring(0, 4 * many), many == 8 ? -20 - 31 : -20 - 4 * many);
        }
        people(due, text, -20 - 31);
        people(due, "", -20);
        people(due, ";0p0", -20);
        people(due, "0p0,0p0", -23);
        people(due, "0p00p0", -23);
        people(due, "0p0;;0p0", -24);
        NodBench x = new NodBench();
        due.is("more than 8 by two texts", Due.people(x, text.substring(0, 31)), 8);
        due.is("more than 8 by two texts", Due.people(x, "0p0;0p0;0p0;0p0"), 4);
    }

    private static void minuteKindSort(Due due) {
        String[] rest = {"", ":1", ":2", ":4", ":0", ":9"};
        for (int kind = 0; kind < 6; kind++) {
            for (int sort = 0; sort < 4; sort++) {
                NodBench x = new NodBench();
                due.is("one", Due.people(x, "17" + "pcgolt".charAt(kind) + sort + rest[kind]), 1);
                due.is("MINUTE", x.told(0, 0), 17);
                due.is("KIND", x.told(0, 1), kind);
                due.is("SORT", x.told(0, 2), sort);
            }
        }
        for (int sign = 33; sign < 127; sign++) {
            char c = (char) sign;
            if (c < '0' || c > '9') {
                people(due, c + "p0", -20);
            }
            if ("pcgolt".indexOf(c) < 0 && (c < '0' || c > '9')) {
                people(due, "5" + c + "0", -21);
            }
            if (c < '0' || c > '3') {
                people(due, "5p" + c, -22);
            }
        }
    }

    private static void thenANumber(Due due) {
        people(due, "5p0:0", -23);
        for (char c : "cgolt".toCharArray()) {
            NodBench x = new NodBench();
            due.is("with 2", Due.people(x, "5" + c + "0:2"), 1);
            due.is("2", x.told(0, 3), 2);
            people(due, "5" + c + "0", -23);
            people(due, "5" + c + "0;", -23);
            people(due, "5" + c + "02", -23);
            people(due, "5" + c + "0:", -24);
            people(due, "5" + c + "0:;", -24);
            people(due, "5" + c + "0:-1", -24);
            people(due, "5" + c + "0::2", -24);
            people(due, "5" + c + "0:2:", -25);
            people(due, "5" + c + "0:2p", -25);
        }
    }

    private static void figures(Due due) {
        NodBench x = new NodBench();
        due.is("zeros ahead", Due.people(x, "0000000000000000000000000239o0:0000000000000000000000000000000099"), 1);
        due.is("MINUTE", x.told(0, 0), 239);
        due.is("number", x.told(0, 3), 99);
        due.is("nothing but zeros", Due.people(x, "000l0:000"), 1);
        due.is("MINUTE", x.told(1, 0), 0);
        due.is("number", x.told(1, 3), 0);
        people(due, "000000240p0", -20);
        people(due, "9p00", -23);
        people(due, "+1p0", -20);
        people(due, "-0p0", -20);
        people(due, "1.0p0", -21);
    }

    private static void firstByte(Due due) {
        people(due, "x", -20);
        people(due, "0x", -21);
        people(due, "0px", -22);
        people(due, "0p0x", -23);
        people(due, "0p0;x", -24);
        people(due, "0p0;0p0;0p0;0x0", -20 - 13);
        people(due, "x;x", -20);
        manners(due, "x", -20);
        manners(due, "pc,gx,x", -24);
        StringBuilder text = new StringBuilder("0p0");
        while (text.length() < 79) {
            text.append(' ');
        }
        people(due, text + "x", -20 - 79);
        manners(due, "pc" + " ".repeat(77) + "x", -20 - 79);
    }

    private static void blanks(Due due) {
        people(due, "  12  p  3  ", 1);
        people(due, " 5 c 0 : 1 ; 6 p 1 ", 2);
        people(due, "1 2p0", -22);
        people(due, "5c0:1 2", -26);
        people(due, "5o0:0 1", -24);
        people(due, "24 0p0", -23);
        people(due, "5p0 1", -24);
        people(due, "  x", -22);
        manners(due, " p c , g o ", 2);
        manners(due, " p  x", -24);
        manners(due, "p c , g g", -28);
        NodBench x = new NodBench();
        due.is("a blank in a number", Due.people(x, "00 p0"), 1);
        due.is("it is none", x.told(0, 0), 0);
    }

    private static void end(Due due) {
        people(due, "", -20);
        people(due, "   ", -23);
        people(due, "5", -21);
        people(due, "5 ", -22);
        people(due, "5p", -22);
        people(due, "5p   ", -25);
        people(due, "5c0", -23);
        people(due, "5c0:", -24);
        people(due, "5c0: ", -25);
        people(due, "5p0;", -24);
        people(due, "5p0;  ", -26);
        people(due, "5" + " ".repeat(79), -20 - 80);
        manners(due, "", -20);
        manners(due, " ", -21);
        manners(due, "p", -21);
        manners(due, "p ", -22);
        manners(due, "pc,", -23);
        manners(due, "pc, ", -24);
        manners(due, " ".repeat(80), -20 - 80);
    }

    private static void firstByteOfNumber(Due due) {
        people(due, "240p0", -20);
        people(due, " 0240p0", -21);
        people(due, "300x", -20);
        people(due, "9999999999999999999999999999p0", -20);
        people(due, "4294967296p0", -20);
        people(due, "18446744073709551616p0", -20);
        people(due, "5c0:3", -24);
        people(due, "5c0:  03", -26);
        people(due, "5g0:1", -24);
        people(due, "5g0:5", -24);
        people(due, "5o0:0", -24);
        people(due, "5o0:100", -24);
        people(due, "5l0:6", -24);
        people(due, "5l0:6x", -24);
        people(due, "5t0:0", -24);
        people(due, "5t0:4294967297", -24);
        people(due, "5p0;6p0;777p0", -20 - 8);
    }

    // ---- SHEETS

    private static void fourSheets(Due due) {
        NodBench x = new NodBench();
        for (int sheet = 0; sheet < 4; sheet++) {
            due.is("sheet", x.sheet(sheet, sheet % 3, 10 + sheet), 10 + sheet);
        }
        for (int sheet = 0; sheet < 4; sheet++) {
            due.is("each its own", x.drop(sheet), 10 + sheet);
        }
        for (int wrong : new int[] {-1, 4, Integer.MIN_VALUE, Integer.MAX_VALUE}) {
            due.is("no sheet " + wrong, x.sheet(wrong, 0, 1), BAD);
            due.is("no drop " + wrong, x.drop(wrong), BAD);
            due.is("no item " + wrong, x.item(wrong, 0, 0, 1), BAD);
            due.is("no film " + wrong, x.film(wrong, 0, 0), BAD);
            due.is("no crowd " + wrong, x.crowd(wrong, 0, 0, 1), BAD);
        }
    }

    private static void nothingAtFirst(Due due) {
        for (int sheet = 0; sheet < 4; sheet++) {
            NodBench x = new NodBench();
            due.is("drop", x.drop(sheet), NodBench.NULL);
            for (int lane = 0; lane < 3; lane++) {
                due.is("item", x.item(sheet, lane, 0, 0), NodBench.NULL);
                due.is("film", x.film(sheet, lane, 0), NodBench.NULL);
                due.is("crowd", x.crowd(sheet, lane, 0, 1), NodBench.NULL);
            }
        }
    }

    private static void lanes(Due due) {
        int[] values = {127, 128, 239, 255, 256, 256 + 100, 65536 + 100, 65536 - 1, 32768, -1, -156, -65436, Integer.MIN_VALUE};
        for (int value : values) {
            int[] kept = {(byte) value, (short) value, value};
            for (int lane = 0; lane < 3; lane++) {
                NodBench x = new NodBench();
                x.sheet(0, lane, 4);
                due.is("becomes " + value, x.item(0, lane, 0, value), 1);
                boolean isMinute = kept[lane] >= 0 && kept[lane] < 240;
                due.is(value + " in LANE " + lane, x.crowd(0, lane, 0, 1), isMinute ? 1 : NodBench.NOT);
                due.is(value + " in LANE " + lane, x.told(0, 0), isMinute ? kept[lane] : BAD);
            }
        }
        for (int wrong : new int[] {-1, 3, Integer.MIN_VALUE, Integer.MAX_VALUE}) {
            due.is("no LANE " + wrong, new NodBench().sheet(0, wrong, 1), BAD);
        }
    }

    private static void items(Due due) {
        for (int n = 0; n <= 24; n++) {
            NodBench x = new NodBench();
            due.is("row of " + n, x.sheet(1, 1, n), n);
            due.is("its first", x.item(1, 1, 0, 9), n == 0 ? NodBench.INDEX : 1);
            due.is("its last", x.item(1, 1, n - 1, 9), n == 0 ? NodBench.INDEX : 1);
            due.is("none behind it", x.item(1, 1, n, 9), NodBench.INDEX);
            due.is("so many", x.drop(1), n);
        }
        due.is("25", new NodBench().sheet(1, 1, 25), BAD);
        due.is("less than none", new NodBench().sheet(1, 1, -1), NodBench.SIZE);
    }
}
