/** The Terms' second part: THE DAY, who goes before whom. */
final class DayEdges {
    private static final int BAD = NodBench.BAD, NONE = NodBench.NONE;
    private static final int TURNED = 1, GONE = 2, CUT = 3, VAIN = 4;

    private DayEdges() {
    }

    static void tell(Edges edges) {
        edges.section("Terms");
        edges.heading("==== 2 THE DAY goes MINUTE by MINUTE, in each: ");
        cuttersAreDone(edges);
        peopleCome(edges);
        peopleGo(edges);
        cuttersTake(edges);
        theEnd(edges);
        whoGoesBefore(edges);
    }

    /** CUTTER 0 is busy till MINUTE 29, CUTTER 1 till 35; the others, from number 2 on, as told. */
    private static NodBench busy(String others) {
        return Due.with("0p3;0p3;" + others);
    }

    // ---- step 1

    private static void cuttersAreDone(Edges edges) {
        edges.says("1 A CUT whose last MINUTE is over is done;", DayEdges::cutIsDone);
        edges.says("its CUTTER RESTS so many MINUTES (0: it is free at once).", DayEdges::rests);
    }

    private static void cutIsDone(Due due) {
        NodBench x = Due.with("3p0;3p0;4p1;4p1");
        due.is("not before it begins", x.at(2, 2), NONE);
        due.is("its last MINUTE", x.at(12, 2), 0);
        due.is("done", x.at(13, 2), 2);
        due.is("the next begins then", x.fate(2, 2), 13);
        due.is("its last MINUTE by 1", x.at(14, 3), 1);
        due.is("done by 1", x.at(15, 3), 3);
        due.is("the next begins then", x.fate(3, 2), 15);
        x.cut(0, 0, 1);
        due.is("a CUT of one MINUTE", x.at(3, 2), 0);
        due.is("done", x.at(4, 2), 2);
    }

    private static void rests(Due due) {
        for (int rest = 0; rest <= 10; rest++) {
            NodBench x = Due.with("0p0;0p0;0p0;0p0");
            x.set(3, rest);
            due.is("0 begins again behind " + rest, x.fate(2, 2), 10 + rest);
            due.is("1 begins again behind " + rest, x.fate(3, 2), 12 + rest);
            due.is("nobody is cut in a REST", x.at(10, 2), rest == 0 ? 2 : NONE);
            due.is("nobody is cut in its last MINUTE", x.at(9 + rest, 2), rest == 0 ? 0 : NONE);
        }
        NodBench x = Due.with("0c0:2;0c0:2");
        x.set(5, 1);
        x.set(3, 7);
        due.is("2 RESTS, too", x.fate(1, 2), 25 + 7);
        due.is("a REST is no MINUTE in which it cuts", x.day(8), 50);
    }

    // ---- step 2

    private static void peopleCome(Edges edges) {
        edges.says("2 Who COMES now, by numbers:", DayEdges::byNumbers);
        edges.says("if those who wait (who are OUT now, too;", DayEdges::outOnesKeepASeat);
        edges.says("GROUPED ones as many as they are)", DayEdges::groupedOnesWait);
        edges.says("and it (as many as it is) are more than SEATS,", DayEdges::asManyAsItIs);
        edges.says("or GUESS times how many wait (each of PEOPLE once) by 2 is more than PATIENCE,", DayEdges::guesses);
        edges.says("it is TURNED at the door; else it waits.", DayEdges::turnedOrWaits);
    }

    private static void byNumbers(Due due) {
        NodBench x = busy("9p0;5p0;5p0;5p0");
        x.set(0, 2);
        due.fate("in the same MINUTE, the first", x, 3, CUT, 25, 30, 0);
        due.fate("the second", x, 4, CUT, 31, 36, 1);
        due.fate("the third finds no SEAT", x, 5, TURNED, 0, NONE, NONE);
        due.fate("told before, but comes later", x, 2, TURNED, 0, NONE, NONE);
    }

    private static void outOnesKeepASeat(Due due) {
        NodBench x = busy("1o0:20;10p0;11p0;26p0");
        x.set(0, 2);
        due.is("nobody sits", x.at(9, 1), 0);
        due.fate("beside one who is OUT", x, 3, CUT, 26, 36, 1);
        due.is("one sits", x.at(11, 1), 1);
        due.fate("but two wait", x, 4, TURNED, 0, NONE, NONE);
        due.fate("back in this MINUTE", x, 5, TURNED, 0, NONE, NONE);
    }

    private static void groupedOnesWait(Due due) {
        for (int many = 2; many <= 4; many++) {
            NodBench x = Due.with("0p3;0p3");
            x.set(0, many + 1);
            x.person(1, 2, 0, many);
            Due.people(x, "2p0;3p0");
            due.fate("one more", x, 3, CUT, 34, 36, 1);
            due.fate("two more are too many", x, 4, TURNED, 0, NONE, NONE);
        }
    }

    private static void asManyAsItIs(Due due) {
        for (int seats = 2; seats <= 12; seats++) {
            NodBench x = busy("1p0");
            x.set(0, seats);
            for (int many = 2; many <= 4; many++) {
                int fate = x.more(2, 2, 0, many, 1);
                due.is(many + " beside one on " + seats, fate, 1 + many > seats ? TURNED : CUT);
            }
            due.is("a PLAIN one beside one on " + seats, x.more(2, 0, 0, 0, 1), CUT);
        }
        NodBench x = Due.with("0g0:4;5g0:3");
        x.set(0, 3);
        due.fate("more than all SEATS", x, 0, TURNED, 0, NONE, NONE);
        due.fate("as many as all SEATS", x, 1, CUT, 0, 5, 0);
    }

    private static void guesses(Due due) {
        NodBench x = busy("1p0;2p0;3p0");
        x.set(1, 12);
        x.set(2, 12);
        due.fate("12 times 2 by 2 is not more than 12", x, 4, CUT, 37, 40, 0);
        x.set(2, 11);
        due.fate("it is more than 11", x, 4, TURNED, 0, NONE, NONE);
        NodBench y = busy("1g0:4;2p0;3p0");
        y.set(1, 40);
        y.set(2, 20);
        due.fate("GROUPED ones once", y, 3, CUT, 34, 36, 1);
        due.fate("and one more are two", y, 4, TURNED, 0, NONE, NONE);
        NodBench z = busy("1o0:20;10p0;11p0");
        z.set(1, 40);
        z.set(2, 20);
        due.fate("beside one who is OUT", z, 3, CUT, 26, 36, 1);
        due.fate("OUT ones wait, too", z, 4, TURNED, 0, NONE, NONE);
        NodBench v = Due.with("0g0:4");
        v.set(1, 40);
        v.set(2, 0);
        due.fate("it does not count itself", v, 0, CUT, 0, 0, 0);
    }

    private static void turnedOrWaits(Due due) {
        NodBench x = busy("5p0;5p0;5p0;6p0");
        x.set(0, 2);
        due.fate("TURNED", x, 4, TURNED, 0, NONE, NONE);
        due.is("two wait", x.at(5, 0), 2);
        due.is("a TURNED one does not come again", x.at(239, 0), 0);
        due.is("TURNED, for no MINUTE", x.at(5, 1), 2);
        due.is("they wait from then on", x.at(4, 0), 0);
        due.fate("waits", x, 2, CUT, 25, 30, 0);
    }

    // ---- step 3

    private static void peopleGo(Edges edges) {
        edges.says("3 TIRED ones that wait and came so many MINUTES ago are GONE.", DayEdges::tired);
        edges.says("OUT ones are out from 5 MINUTES behind coming on, so many MINUTES", DayEdges::out);
        edges.says("(if they still wait);", DayEdges::outIfTheyWait);
        edges.says("then they are back (by KEEPS 0 their PLACE is this MINUTE).", DayEdges::back);
    }

    private static void tired(Due due) {
        for (int number = 1; number <= 99; number++) {
            NodBench x = Due.with("0g3:3;0g3:3");
            x.person(0, 5, 0, number);
            boolean isGone = number <= 90;
            due.fate("TIRED behind " + number, x, 2, isGone ? GONE : CUT, isGone ? number : 90, isGone ? NONE : 90, isGone ? NONE : 0);
            due.is("the MINUTE before", x.at(Math.min(number, 90) - 1, 0), 1);
            due.is("no more", x.at(Math.min(number, 90), 0), 0);
        }
        NodBench y = Due.with("0t3:1;0t3:1;0t3:1");
        due.fate("who is cut does not go", y, 0, CUT, 0, 0, 0);
        due.fate("nor is who was cut", y, 1, CUT, 0, 0, 1);
        due.fate("the third goes", y, 2, GONE, 1, NONE, NONE);
        NodBench z = busy("1t0:9;10p0;11p0");
        z.set(0, 2);
        due.fate("goes behind those who come", z, 2, GONE, 9, NONE, NONE);
        due.fate("came beside it", z, 3, CUT, 20, 30, 0);
        due.fate("came behind it", z, 4, CUT, 25, 36, 1);
        NodBench v = busy("1t0:9;9p0;10p0;10p0");
        v.set(0, 2);
        due.fate("its SEAT is not free in that MINUTE", v, 4, TURNED, 0, NONE, NONE);
    }

    private static void out(Due due) {
        for (int number = 1; number <= 99; number += 7) {
            NodBench x = Due.with("0g3:4;0g3:4");
            x.set(0, 12);
            x.person(3, 3, 0, number);
            due.is("not yet", x.at(7, 1), 1);
            due.is("from 5 behind", x.at(8, 1), 0);
            due.is("till then", x.at(7 + number, 1), 0);
            due.is("back", x.at(8 + number, 1), 1);
            due.is("it waits", x.at(7 + number, 0), 1);
        }
        for (int number = 1; number <= 99; number++) {
            NodBench x = busy("25o0:" + number);
            due.is("taken when it is back", x.fate(2, 2), 30 + number);
        }
        due.is("not out at 4 behind", busy("26o0:99").fate(2, 2), 30);
        due.is("out at 5 behind", busy("25o0:1").fate(2, 2), 31);
        due.is("back at 30", busy("20o0:5").fate(2, 2), 30);
        due.is("back at 31", busy("20o0:6").fate(2, 2), 31);
        NodBench v = busy("5p3;5p3;200p3;200p3;210o0:99");
        due.fate("out till the end", v, 6, VAIN, 30, NONE, NONE);
        due.is("out in the last MINUTE", v.at(239, 1), 0);
    }

    private static void outIfTheyWait(Due due) {
        NodBench x = Due.with("10o0:9;10o2:1");
        due.fate("taken at once", x, 0, CUT, 0, 10, 0);
        due.is("it is cut", x.at(15, 2), 0);
        due.is("it is cut till the end", x.at(19, 2), 0);
        due.is("the other one, too", x.at(33, 3), 1);
        due.is("nobody sits", x.at(15, 1), 0);
        x.set(6, 0);
        due.fate("PLACE is nothing to it", x, 1, CUT, 0, 10, 1);
    }

    private static void back(Due due) {
        int[][] rivals = {{16, 1}, {17, 0}, {18, 0}};
        for (int[] rival : rivals) {
            NodBench x = busy("2o0:10");
            x.person(rival[0], 0, 0, 0);
            x.set(6, 0);
            int first = rival[1] == 1 ? 3 : 2;
            due.is("back at 17, against " + rival[0], x.fate(first, 2), 30);
            due.is("the other one", x.fate(5 - first, 2), 36);
            x.set(6, 1);
            due.is("by KEEPS 1 its PLACE is 2", x.fate(2, 2), 30);
        }
        NodBench y = Due.with("17p0;2o0:10;0p3;0p3");
        y.set(6, 0);
        due.is("of like ones the lesser number", y.fate(0, 2), 30);
        NodBench z = busy("25o0:5;27p0");
        z.set(6, 0);
        due.is("not back yet when 0 is free", z.fate(3, 2), 30);
        NodBench v = busy("10o0:15;26p0");
        v.set(6, 0);
        due.is("back in that MINUTE: PLACE 30", v.fate(3, 2), 30);
        v.set(6, 1);
        due.is("back in that MINUTE: PLACE 10", v.fate(2, 2), 30);
        NodBench u = busy("26o0:50;27p0");
        u.set(6, 0);
        due.is("taken before it is out: PLACE 26", u.fate(2, 2), 30);
    }

    // ---- step 4

    private static void cuttersTake(Edges edges) {
        edges.says("4 Each free CUTTER, 0 first, takes THE NEXT of those that wait for it,", DayEdges::cuttersInOrder);
        edges.says("not out", DayEdges::notOut);
        edges.says("(CHOOSING ones wait for theirs alone);", DayEdges::choosing);
        edges.says("CUTTER 2 only if THIRD or more of PEOPLE wait (out ones, too) then.", DayEdges::theThird);
        edges.says("A CUT takes what its CUTTER needs for the SORT, times how many they are,", DayEdges::times);
        edges.says("and TALK more for a CHOOSING one;", DayEdges::talk);
        edges.says("from this MINUTE on.", DayEdges::fromThisMinuteOn);
    }

    private static void cuttersInOrder(Due due) {
        NodBench x = Due.with("5p0;5p0;5p0;5p0;5p0");
        x.set(5, 1);
        for (int person = 0; person < 3; person++) {
            due.fate("all are free", x, person, CUT, 0, 5, person);
        }
        due.fate("0 is free first", x, 3, CUT, 10, 15, 0);
        due.fate("then 1", x, 4, CUT, 12, 17, 1);
        NodBench y = Due.with("0p2;0p0;0p0;0p0");
        y.cut(1, 0, 20);
        due.fate("both are free at 20: 0", y, 2, CUT, 20, 20, 0);
        due.fate("both are free at 20: 1", y, 3, CUT, 20, 20, 1);
        NodBench z = Due.with("0p0");
        z.set(5, 1);
        due.is("one alone is cut by 0", z.at(0, 2), 0);
        due.is("not by 1", z.at(0, 3), NONE);
        due.is("not by 2", z.at(0, 4), NONE);
        due.is("nobody at all", new NodBench().at(0, 2), NONE);
    }

    private static void notOut(Due due) {
        NodBench x = busy("24o0:20;29p0");
        due.fate("before one who is out", x, 3, CUT, 1, 30, 0);
        due.fate("1 is free and waits", x, 2, CUT, 25, 49, 0);
        due.is("1 cuts nobody", x.at(36, 3), NONE);
        NodBench y = Due.with("0p3;0p3;1o0:90");
        y.set(5, 1);
        due.is("2 cuts one who isn't out yet", y.fate(2, 2), 1);
        NodBench z = Due.with("0p3;0p3;0p3;1o0:90;1o0:90");
        z.set(5, 1);
        z.cut(2, 3, 8);
        due.is("2 finds both out at 8", z.at(8, 4), NONE);
        due.is("they are out", z.at(8, 0), 2);
    }

    private static void choosing(Due due) {
        NodBench x = Due.with("0c0:1;0c0:1;30c0:0;30c0:0");
        due.fate("0 is free, but 1 is his", x, 0, CUT, 0, 0, 1);
        due.fate("waits for 1 alone", x, 1, CUT, 17, 17, 1);
        due.fate("his is 0", x, 2, CUT, 0, 30, 0);
        due.fate("waits for 0 alone", x, 3, CUT, 15, 45, 0);
        NodBench y = Due.with("0c0:2;3p0");
        due.fate("2 never cuts", y, 0, VAIN, 240, NONE, NONE);
        due.fate("he lets others by", y, 1, CUT, 0, 3, 0);
        y.set(5, 2);
        due.fate("one alone is too few", y, 0, VAIN, 240, NONE, NONE);
        Due.people(y, "4c0:2");
        due.fate("two that wait for 2", y, 0, CUT, 4, 4, 2);
        due.fate("the other one is alone", y, 2, VAIN, 236, NONE, NONE);
    }

    private static void theThird(Due due) {
        for (int third = 0; third <= 5; third++) {
            NodBench x = Due.with("0p3;0p3;0p3;0p3;0p3");
            x.set(5, third);
            // Three still wait when 0 and 1 have taken theirs.
            due.is("three wait, THIRD " + third, x.at(0, 4), third <= 3 ? 2 : NONE);
        }
        NodBench y = busy("1g0:4;20p0");
        y.set(5, 2);
        due.is("GROUPED ones are one of PEOPLE", y.at(1, 4), NONE);
        due.is("with another one they are two", y.at(20, 4), 2);
        NodBench z = busy("1o0:25;10p0;26o0:9");
        z.set(5, 2);
        due.fate("one is out, too", z, 3, CUT, 0, 10, 2);
        due.is("one alone is too few", z.at(9, 4), NONE);
        NodBench v = Due.with("0c0:2;0c0:0;0c0:0");
        v.set(5, 2);
        due.is("those that wait for another CUTTER, too", v.at(0, 4), 0);
        NodBench w = Due.with("0p0");
        w.set(5, 0);
        due.is("THIRD 0 takes nobody where nobody is", w.at(0, 4), NONE);
        due.is("one is left for 0", w.at(0, 2), 0);
    }

    private static void times(Due due) {
        for (int many = 2; many <= 4; many++) {
            for (int cutter = 0; cutter < 2; cutter++) {
                NodBench x = new NodBench();
                if (cutter == 1) {
                    x.person(0, 0, 3, 0);
                }
                x.person(0, 2, 1, many);
                int end = (cutter == 0 ? 15 : 18) * many;
                due.is(many + " by " + cutter, x.at(end - 1, 2 + cutter), cutter);
                due.is(many + " are done", x.at(end, 2 + cutter), NONE);
            }
        }
        NodBench x = Due.with("0g0:4;1p0;1p0");
        x.cut(0, 0, 60);
        due.is("all the day", x.at(239, 2), 0);
        due.fate("so only 1 is free", x, 2, CUT, 12, 13, 1);
        x.set(5, 1);
        due.is("2 needs its own", x.at(20, 4), 2);
        due.is("2 is done", x.at(21, 4), NONE);
    }

    private static void talk(Due due) {
        for (int talk = 0; talk <= 20; talk += 5) {
            NodBench x = Due.with("0c1:1;0p1");
            x.set(4, talk);
            due.is("his last MINUTE", x.at(17 + talk, 3), 0);
            due.is("is over", x.at(18 + talk, 3), NONE);
            due.is("no TALK with a PLAIN one", x.at(14, 2), 1);
            due.is("it is over", x.at(15, 2), NONE);
        }
        String[] others = {"0g0:2", "0o0:9", "0l0:0", "0t0:9"};
        for (String other : others) {
            NodBench x = Due.with(other);
            x.set(4, 20);
            int end = other.charAt(1) == 'g' ? 20 : 10;
            due.is(other, x.at(end - 1, 2), 0);
            due.is(other + " has no TALK", x.at(end, 2), NONE);
        }
    }

    private static void fromThisMinuteOn(Due due) {
        NodBench x = Due.with("100p0");
        due.is("not the MINUTE before", x.at(99, 2), NONE);
        due.is("the MINUTE in which it comes", x.at(100, 2), 0);
        due.fate("at once", x, 0, CUT, 0, 100, 0);
        due.is("for ten MINUTES", x.at(109, 2), 0);
        due.is("not eleven", x.at(110, 2), NONE);
    }

    // ---- the end of THE DAY

    private static void theEnd(Edges edges) {
        edges.says("Behind MINUTE 239 nothing begins.", DayEdges::nothingBegins);
        edges.says("COIN is the PRICE times how many, of each CUT that has begun.", DayEdges::coin);
        edges.says("WAIT of one is how many MINUTES from when it came till its CUT began;", DayEdges::waitTillCut);
        edges.says("of one that is GONE till it went;", DayEdges::waitTillItWent);
        edges.says("of one that still waits behind 239: 240 less when it came;", DayEdges::waitInVain);
        edges.says("0, if it was TURNED or has not come.", DayEdges::noWait);
    }

    private static void nothingBegins(Due due) {
        NodBench x = Due.with("210p3;210p3;220p0");
        due.fate("0 would be free at 240", x, 2, VAIN, 20, NONE, NONE);
        due.is("cut in the last MINUTE", x.at(239, 2), 0);
        NodBench y = Due.with("209p3;210p3;220p0");
        due.fate("0 is free at 239", y, 2, CUT, 19, 239, 0);
        due.is("cut in the last MINUTE", y.at(239, 2), 2);
        due.is("there is no MINUTE 240", y.at(240, 2), BAD);
        y.set(3, 1);
        due.fate("0 RESTS in 239", y, 2, VAIN, 20, NONE, NONE);
        NodBench z = Due.with("239p0;239p0;239p0");
        due.fate("comes and begins", z, 1, CUT, 0, 239, 1);
        due.fate("comes and waits", z, 2, VAIN, 1, NONE, NONE);
    }

    private static void coin(Due due) {
        NodBench x = Due.with("239p3;239g1:4;239p2;239g2:4");
        due.is("begun is enough; who waits and who is TURNED does not pay", x.day(0), 30 + 4 * 15);
        NodBench y = busy("1t2:5");
        due.is("who is GONE does not pay", y.day(0), 60);
        for (int many = 2; many <= 4; many++) {
            NodBench z = new NodBench();
            z.person(0, 2, 3, many);
            due.is("times " + many, z.day(0), 30 * many);
        }
        NodBench v = Due.with("0c1:1");
        due.is("TALK is free", v.day(0), 15);
        v.price(1, 0);
        due.is("for nothing", v.day(0), 0);
    }

    private static void waitTillCut(Due due) {
        NodBench x = busy("0p0;29l0:0;3o0:40");
        due.is("at once", x.fate(0, 1), 0);
        due.is("from its coming on", x.fate(2, 1), 30);
        due.is("not from its call on", x.fate(3, 1), 36 - 29);
        due.is("out MINUTES are waited", x.fate(4, 1), 45);
        x.set(6, 0);
        due.is("whatever its PLACE is", x.fate(4, 1), 45);
    }

    private static void waitTillItWent(Due due) {
        NodBench x = busy("5t0:1;5t0:24;5t0:25;5t0:26");
        due.fate("one MINUTE", x, 2, GONE, 1, NONE, NONE);
        due.fate("the MINUTE before 0 is free", x, 3, GONE, 24, NONE, NONE);
        due.fate("the MINUTE when 0 is free", x, 4, GONE, 25, NONE, NONE);
        due.fate("taken in time", x, 5, CUT, 25, 30, 0);
        due.is("together", x.day(1), 1 + 24 + 25 + 25);
    }

    private static void waitInVain(Due due) {
        for (int minute : new int[] {0, 1, 120, 238, 239}) {
            NodBench x = new NodBench();
            x.person(minute, 1, 0, 2);
            due.fate("came at " + minute, x, 0, VAIN, 240 - minute, NONE, NONE);
        }
    }

    private static void noWait(Due due) {
        NodBench x = Due.with("7g0:4");
        x.set(0, 3);
        due.fate("TURNED", x, 0, TURNED, 0, NONE, NONE);
        due.is("together", x.day(1), 0);
        due.is("the most", x.day(2), 0);
        due.is("nobody comes", new NodBench().day(1), 0);
    }

    // ---- who goes before whom

    private static void whoGoesBefore(Edges edges) {
        edges.says("PLACE is the MINUTE when it came", DayEdges::place);
        edges.says("(LISTED: called).", DayEdges::called);
        edges.says("RULE 0: who has the lesser PLACE", DayEdges::lesserPlace);
        edges.says("(of like ones the lesser number) goes before the other one.", DayEdges::lesserNumber);
        edges.says("RULE 1: by MANNERS (KINDS of both), if they tell of these in just one way;", DayEdges::byManners);
        edges.says("else as 0.", DayEdges::elseByPlace);
        edges.says("RULE 2: whose CUT there would be shorter;", DayEdges::byShorter);
        edges.says("of like ones as 0.", DayEdges::asShort);
        edges.says("THE NEXT is whom no other one of them goes before;", DayEdges::theNext);
        edges.says("if there is none, they are in a RING: the one that goes before the others by RULE 0, and a QUARREL more.",
            DayEdges::ring);
    }

    private static void place(Due due) {
        NodBench x = Due.with("3p0;2p0;0p3;0p3");
        due.is("came before, told behind", x.fate(1, 2), 30);
        due.is("came behind, told before", x.fate(0, 2), 36);
        String[] others = {"2c0:0", "2g0:2", "2o0:1", "2t0:99"};
        for (String other : others) {
            NodBench y = Due.with("3p0;" + other + ";0p3;0p3");
            due.is(other + " came before", y.fate(1, 2), 30);
        }
    }

    private static void called(Due due) {
        NodBench x = busy("5p0;20l0:4");
        due.is("called before the other one came", x.fate(3, 2), 30);
        NodBench y = busy("5p0;20l0:5");
        due.is("called in the same MINUTE: the lesser number", y.fate(2, 2), 30);
        NodBench z = busy("5p0;20l0:6");
        due.is("called behind", z.fate(2, 2), 30);
        NodBench v = busy("1p0;20l0:0");
        due.is("called in MINUTE 0", v.fate(3, 2), 30);
        NodBench w = busy("20p0;20l0:20;21l0:21");
        due.is("called when it came", w.fate(2, 2), 30);
        NodBench u = busy("5p0;31l0:0");
        due.is("called, but not there", u.fate(2, 2), 30);
    }

    private static void lesserPlace(Due due) {
        NodBench x = busy("9p0;8t3:99;7g0:2;6c0:0");
        Due.manners(x, "pt,tg,gc");
        x.set(7, 0);
        due.is("the least", x.fate(5, 2), 30);
        due.is("the second, by 1", x.fate(4, 2), 36);
        due.is("the third", x.fate(3, 2), 45);
        due.is("the greatest", x.fate(2, 2), 60);
        due.is("no QUARREL", x.day(7), 0);
    }

    private static void lesserNumber(Due due) {
        NodBench x = Due.with("5p3;5p0;0p3;0p3;5p1");
        x.set(7, 0);
        due.is("the first", x.fate(0, 2), 30);
        due.is("the second", x.fate(1, 2), 36);
        due.is("the third", x.fate(4, 2), 48);
    }

    private static void byManners(Due due) {
        String kinds = "pcgolt";
        String[] ones = {"p0", "c0:0", "g0:2", "o0:1", "l0:9", "t0:99"};
        for (int kind = 0; kind < 6; kind++) {
            for (int other = 0; other < 6; other++) {
                if (kind != other) {
                    NodBench x = busy("9" + ones[kind] + ";10" + ones[other]);
                    due.is(kind + " came before " + other, x.fate(2, 2), 30);
                    Due.manners(x, "" + kinds.charAt(other) + kinds.charAt(kind));
                    due.is(other + " goes before " + kind, x.fate(3, 2), 30);
                    due.is("no QUARREL of two", x.day(7), 0);
                }
            }
        }
    }

    private static void elseByPlace(Due due) {
        NodBench x = busy("1p0;2t0:99");
        Due.manners(x, "tc,cp,ol");
        due.is("not told of these two", x.fate(2, 2), 30);
        Due.manners(x, "tp,pt");
        due.is("told both ways", x.fate(2, 2), 30);
        Due.manners(x, "pt,tp");
        due.is("told both ways", x.fate(2, 2), 30);
        due.is("no QUARREL", x.day(7), 0);
        NodBench y = busy("2t0:99;1t0:99");
        Due.manners(y, "tp,pc");
        due.is("of one KIND", y.fate(3, 2), 30);
        NodBench z = busy("2p0;2t0:99");
        due.is("none told: like PLACES", z.fate(2, 2), 30);
    }

    private static void byShorter(Due due) {
        NodBench x = busy("1p1;2p0;3g0:2;4c0:0;5p3");
        x.set(7, 2);
        due.is("10", x.fate(3, 2), 30);
        due.is("18, by 1; he does not wait for it", x.fate(2, 2), 36);
        due.is("10 and TALK", x.fate(5, 2), 40);
        due.is("2 times 12", x.fate(4, 2), 54);
        due.is("30", x.fate(6, 2), 55);
        NodBench y = busy("1p1;2p0");
        y.set(7, 2);
        y.cut(0, 1, 9);
        due.is("there: by 0", y.fate(2, 2), 30);
        y.cut(0, 1, 11);
        y.cut(1, 1, 1);
        due.is("not by 1", y.fate(3, 2), 30);
        NodBench z = busy("1p1;2p2;3p0");
        z.set(7, 2);
        z.cut(1, 2, 17);
        due.is("10 by 0", z.fate(4, 2), 30);
        due.is("17 by 1, where the other one is 18", z.fate(3, 2), 36);
    }

    private static void asShort(Due due) {
        NodBench x = Due.with("3p0;2p0;2p0;0p3;0p3;1p1");
        x.set(7, 2);
        due.is("the lesser PLACE", x.fate(1, 2), 30);
        due.is("the lesser number", x.fate(2, 2), 36);
        due.is("then the greater PLACE", x.fate(0, 2), 40);
        due.is("the longer one last", x.fate(5, 2), 48);
        NodBench y = busy("1c0:0;2p1");
        y.set(7, 2);
        due.is("10 and 5 are 15", y.fate(2, 2), 30);
        due.is("no QUARREL", y.day(7), 0);
    }

    private static void theNext(Due due) {
        NodBench x = busy("1p0;2t0:99;3l0:3;4g0:2");
        Due.manners(x, "gl,gt,gp,lt,lp,tp");
        due.is("before all", x.fate(5, 2), 30);
        due.is("before two", x.fate(4, 2), 36);
        due.is("before one", x.fate(3, 2), 48);
        due.is("before nobody", x.fate(2, 2), 50);
        due.is("no QUARREL", x.day(7), 0);
        NodBench y = busy("1p0;2t0:99;3c0:1");
        Due.manners(y, "pt,tc,cp");
        due.is("only those that wait for it: no RING", y.fate(2, 2), 30);
        due.is("no QUARREL", y.day(7), 0);
        NodBench z = busy("1p0;2t0:99;24o0:5");
        Due.manners(z, "tp,ot,po");
        due.is("one is still out: no RING", z.fate(3, 2), 30);
        due.is("no RING behind it", z.day(7), 0);
        NodBench v = Due.with("1p0");
        Due.manners(v, "pt,tl,lp");
        due.is("one alone", v.day(7), 0);
        due.is("nobody", new NodBench().day(7), 0);
    }

    private static void ring(Due due) {
        NodBench x = busy("1p2;2t1:99;3l0:3");
        Due.manners(x, "pt,tl,lp");
        due.is("the least PLACE", x.fate(2, 2), 30);
        due.is("a QUARREL", x.day(7), 1);
        due.is("then two are left, in no RING", x.fate(3, 2), 36);
        NodBench y = busy("3p0;2t0:99;2l0:2");
        Due.manners(y, "pt,tl,lp");
        due.is("of like PLACES the lesser number", y.fate(3, 2), 30);
        due.is("a QUARREL", y.day(7), 1);
        NodBench z = busy("1p0;2t0:99;3l0:0");
        Due.manners(z, "pt,tl");
        due.is("by MANNERS, and once by PLACE: called first", z.fate(4, 2), 30);
        due.is("a QUARREL", z.day(7), 1);
        NodBench u = Due.with("1p0;2t0:99;3l0:3;0p3;0p3");
        Due.manners(u, "tp,lt,pl");
        due.is("number 0 is in it, the other way round", u.fate(0, 2), 30);
        due.is("a QUARREL", u.day(7), 1);
        NodBench t = Due.with("3l0:3;1p0;2t0:99;0p3;0p3");
        Due.manners(t, "pt,tl,lp");
        due.is("number 0 goes before the one of the least PLACE", t.fate(1, 2), 30);
        due.is("a QUARREL", t.day(7), 1);
        NodBench v = busy("1p0;2t0:99;3l0:3;4p0;5t0:99;6l0:6");
        Due.manners(v, "pt,tl,lp");
        due.is("two of each KIND", v.fate(2, 2), 30);
        due.is("by 1", v.fate(3, 2), 36);
        due.is("by 0", v.fate(4, 2), 40);
        due.is("three QUARRELS, and one of the other three", v.day(7), 4);
        v.set(7, 0);
        due.is("none by RULE 0", v.day(7), 0);
        v.set(7, 2);
        due.is("none by RULE 2", v.day(7), 0);
        NodBench w = busy("1p0;2t0:99;3l0:3;40g0:2");
        Due.manners(w, "pt,tl,lp");
        due.is("one who is in no RING came behind them", w.day(7), 1);
    }
}
