/** Promises 14 to 16: the day. */
final class DayTest {
    private static final int BAD = NodBench.BAD, NONE = NodBench.NONE;
    private static final int TURNED = 1, GONE = 2, CUT = 3, VAIN = 4;
    private static final Due due = new Due();

    public static void main(String[] args) {
        refusals();
        oneAlone();
        theNextWaits();
        rest();
        seats();
        patience();
        tired();
        out();
        places();
        choosing();
        grouped();
        theThird();
        byManners();
        rings();
        byShorter();
        theEnd();
        figures();
        changesAreSeen();
        due.close("DayTest");
    }

    /** Cutter 0 is busy till minute 30, cutter 1 till minute 36; others come as told. */
    private static NodBench busy(String others) {
        NodBench x = new NodBench();
        Due.people(x, "0p3;0p3;" + others);
        return x;
    }

    private static void fate(String what, NodBench x, int person, int fate, int wait, int begun, int by) {
        due.is(what + ": fate of " + person, x.fate(person, 0), fate);
        due.is(what + ": wait of " + person, x.fate(person, 1), wait);
        due.is(what + ": begin of " + person, x.fate(person, 2), begun);
        due.is(what + ": cutter of " + person, x.fate(person, 3), by);
    }

    private static void refusals() {
        NodBench x = new NodBench();
        due.is("14 nobody", x.fate(0, 0), BAD);
        x.person(0, 0, 0, 0);
        due.is("14 nobody", x.fate(1, 0), BAD);
        due.is("14 nobody", x.fate(-1, 0), BAD);
        due.is("14 nothing", x.fate(0, -1), BAD);
        due.is("14 nothing", x.fate(0, 4), BAD);
        due.is("15 no minute", x.at(-1, 0), BAD);
        due.is("15 no minute", x.at(240, 0), BAD);
        due.is("15 nothing", x.at(0, -1), BAD);
        due.is("15 nothing", x.at(0, 5), BAD);
        due.is("16 nothing", x.day(-1), BAD);
        due.is("16 nothing", x.day(9), BAD);
    }

    private static void oneAlone() {
        NodBench x = new NodBench();
        x.person(10, 0, 0, 0);
        fate("alone", x, 0, CUT, 0, 10, 0);
        due.is("15 before", x.at(9, 2), NONE);
        due.is("15 first minute", x.at(10, 2), 0);
        due.is("15 last minute", x.at(19, 2), 0);
        due.is("15 behind", x.at(20, 2), NONE);
        due.is("15 by 1", x.at(10, 3), NONE);
        due.is("15 by 2", x.at(10, 4), NONE);
        due.is("15 nobody waits", x.at(10, 0), 0);
    }

    private static void theNextWaits() {
        NodBench x = new NodBench();
        Due.people(x, "3p1;0p0;0p0;0p0");
        fate("by numbers", x, 1, CUT, 0, 0, 0);
        fate("by numbers", x, 2, CUT, 0, 0, 1);
        fate("the third of them", x, 3, CUT, 10, 10, 0);
        fate("the first told came last", x, 0, CUT, 9, 12, 1);
        due.is("15 waiting at 2", x.at(2, 0), 1);
        due.is("15 waiting at 9", x.at(9, 0), 2);
        due.is("15 waiting at 10, behind all four", x.at(10, 0), 1);
        due.is("15 waiting at 12", x.at(12, 0), 0);
        due.is("15 under 1 at 11", x.at(11, 3), 2);
        due.is("15 under 1 at 12", x.at(12, 3), 0);
        due.is("16 waits", x.day(1), 19);
        due.is("16 the most", x.day(2), 10);
    }

    private static void rest() {
        NodBench x = new NodBench();
        x.set(3, 3);
        Due.people(x, "0p0;0p0;0p0");
        fate("rest", x, 2, CUT, 13, 13, 0);
        due.is("15 the cut is done", x.at(10, 2), NONE);
        due.is("15 still resting", x.at(12, 2), NONE);
        due.is("15 no more", x.at(13, 2), 2);
        x.set(3, 1);
        fate("rest of one minute", x, 2, CUT, 11, 11, 0);
    }

    private static void seats() {
        NodBench x = new NodBench();
        x.set(0, 2);
        Due.people(x, "0p0;0p0;0p0;0p0;1p0;2g0:2;3p0");
        fate("all come before one is taken", x, 1, CUT, 0, 0, 1);
        fate("more than SEATS", x, 2, TURNED, 0, NONE, NONE);
        fate("more than SEATS", x, 3, TURNED, 0, NONE, NONE);
        fate("SEATS are free again", x, 4, CUT, 9, 10, 0);
        fate("with two there are three", x, 5, TURNED, 0, NONE, NONE);
        fate("just as many", x, 6, CUT, 9, 12, 1);
        due.is("16 turned", x.day(3), 3);
        NodBench y = new NodBench();
        y.set(0, 3);
        Due.people(y, "0g0:4;0g0:3;0p0");
        fate("more than all SEATS", y, 0, TURNED, 0, NONE, NONE);
        fate("as many as SEATS", y, 1, CUT, 0, 0, 0);
        fate("those sit as many", y, 2, TURNED, 0, NONE, NONE);
        NodBench z = busy("1o0:50;20p0");
        z.set(0, 1);
        fate("one of two", z, 1, TURNED, 0, NONE, NONE);
        z.set(0, 2);
        fate("out ones keep a seat", z, 2, CUT, 55, 56, 0);
        Due.people(z, "21p0");
        fate("out ones keep a seat", z, 4, TURNED, 0, NONE, NONE);
    }

    private static void patience() {
        NodBench x = new NodBench();
        x.set(0, 12);
        x.set(1, 40);
        Due.people(x, "0p0;0p0;0p0;0p0;0p0");
        fate("60 is not more than 60", x, 3, CUT, 12, 12, 1);
        fate("80 is", x, 4, TURNED, 0, NONE, NONE);
        x.set(2, 79);
        fate("80 is", x, 4, TURNED, 0, NONE, NONE);
        x.set(2, 80);
        fate("not more", x, 4, CUT, 20, 20, 0);
        x.set(1, 1);
        x.set(2, 0);
        fate("a half is cut to nothing", x, 1, CUT, 0, 0, 1);
        fate("one is more", x, 2, TURNED, 0, NONE, NONE);
        NodBench y = new NodBench();
        y.set(0, 12);
        y.set(1, 2);
        y.set(2, 1);
        Due.people(y, "0g0:4;0p0;0p0");
        fate("each of PEOPLE once", y, 1, CUT, 0, 0, 1);
        fate("two of them", y, 2, TURNED, 0, NONE, NONE);
    }

    private static void tired() {
        NodBench x = busy("1t0:5;1t0:29;1t0:30;1t0:36;200t0:40");
        x.set(0, 12);
        fate("tired", x, 2, GONE, 5, NONE, NONE);
        fate("gone before a cutter takes it", x, 3, GONE, 29, NONE, NONE);
        fate("taken in time", x, 4, CUT, 29, 30, 0);
        fate("taken in time", x, 5, CUT, 35, 36, 1);
        fate("at once", x, 6, CUT, 0, 200, 0);
        due.is("15 waiting at 5", x.at(5, 0), 4);
        due.is("15 waiting at 6", x.at(6, 0), 3);
        due.is("16 gone", x.day(4), 2);
        due.is("16 waits of gone ones count", x.day(1), 5 + 29 + 29 + 35);
        NodBench y = busy("20t0:5;25p0");
        y.set(0, 2);
        y.person(25, 0, 0, 0);
        fate("who goes now still sits when others come", y, 4, TURNED, 0, NONE, NONE);
        NodBench v = new NodBench();
        Due.people(v, "1t0:5;0p3;0p3");
        fate("the first told", v, 0, GONE, 5, NONE, NONE);
        NodBench z = busy("200c0:2;230t0:10");
        z.set(5, 13);
        z.person(225, 0, 3, 0);
        z.person(225, 0, 3, 0);
        fate("tired at the end of the day", z, 3, VAIN, 10, NONE, NONE);
        fate("chose one who never cuts", z, 2, VAIN, 40, NONE, NONE);
    }

    private static void out() {
        NodBench x = busy("2o0:10;2o0:40");
        due.is("15 both sit", x.at(6, 1), 2);
        due.is("15 both are out", x.at(7, 1), 0);
        due.is("15 both wait", x.at(7, 0), 2);
        due.is("15 both are out", x.at(16, 1), 0);
        due.is("15 one is back", x.at(17, 1), 1);
        due.is("15 both wait", x.at(17, 0), 2);
        fate("back", x, 2, CUT, 28, 30, 0);
        fate("a free cutter waits for nobody out", x, 3, CUT, 45, 47, 0);
        NodBench y = new NodBench();
        Due.people(y, "0o0:50;0p0;0o0:3;0o0:50");
        fate("not out yet", y, 0, CUT, 0, 0, 0);
        fate("back at 8, taken at 10", y, 2, CUT, 10, 10, 0);
        fate("back at 55", y, 3, CUT, 55, 55, 0);
        NodBench z = busy("25o0:9");
        due.is("out from 30 on, so not taken then", z.fate(2, 2), 39);
        NodBench v = new NodBench();
        Due.people(v, "200p3;200p3;210o0:99");
        fate("out till the end", v, 2, VAIN, 30, NONE, NONE);
        NodBench w = new NodBench();
        Due.people(w, "3o0:20;0p3;0p3;4p0");
        w.set(6, 0);
        fate("the first told is out", w, 0, CUT, 33, 36, 1);
        due.is("15 the first told sits", w.at(7, 1), 2);
        due.is("15 the first told is out", w.at(8, 1), 1);
        due.is("16 the first told waits most", w.day(2), 33);
    }

    private static void places() {
        NodBench x = busy("2o0:10;10p0");
        fate("its place is kept", x, 2, CUT, 28, 30, 0);
        x.set(6, 0);
        fate("its place is lost", x, 3, CUT, 20, 30, 0);
        fate("its place is lost", x, 2, CUT, 34, 36, 1);
        x.strike(3);
        x.person(17, 0, 0, 0);
        fate("like places: the lesser number", x, 2, CUT, 28, 30, 0);
        x.strike(3);
        x.person(18, 0, 0, 0);
        fate("back one minute earlier", x, 2, CUT, 28, 30, 0);
        NodBench y = busy("5p0;10l0:3");
        fate("it called before", y, 3, CUT, 20, 30, 0);
        NodBench z = busy("5p0;10l0:5");
        fate("it called in the same minute", z, 2, CUT, 25, 30, 0);
        NodBench w = busy("10l0:5;5p0");
        fate("it called in the same minute", w, 2, CUT, 20, 30, 0);
    }

    private static void choosing() {
        NodBench x = new NodBench();
        Due.people(x, "0c0:1;0c0:1;0c0:0;20p0;22p0");
        fate("its cutter", x, 0, CUT, 0, 0, 1);
        fate("waits for its cutter alone", x, 1, CUT, 17, 17, 1);
        fate("another one's", x, 2, CUT, 0, 0, 0);
        due.is("15 talk", x.at(14, 2), 2);
        due.is("15 talk is over", x.at(15, 2), NONE);
        fate("0 first", x, 3, CUT, 0, 20, 0);
        fate("none is free till 30", x, 4, CUT, 8, 30, 0);
        x.set(4, 0);
        fate("no talk", x, 1, CUT, 12, 12, 1);
        fate("1 is free at 24", x, 4, CUT, 2, 24, 1);
        NodBench y = new NodBench();
        Due.people(y, "0c0:2");
        due.is("2 never cuts", y.fate(0, 1), 240);
        y.set(5, 1);
        fate("2 cuts if one waits", y, 0, CUT, 0, 0, 2);
        due.is("16 minutes of 2", y.day(8), 25);
    }

    private static void grouped() {
        NodBench x = new NodBench();
        Due.people(x, "0g1:3;0p0;0p0;1g0:2");
        fate("three", x, 0, CUT, 0, 0, 0);
        due.is("15 three times 15", x.at(44, 2), 0);
        due.is("15 three times 15", x.at(45, 2), NONE);
        due.is("15 one and two", x.at(1, 1), 3);
        due.is("15 each once", x.at(1, 0), 2);
        due.is("16 coin", x.day(0), 45 + 10 + 10 + 20);
        due.is("16 cut, each once", x.day(5), 4);
        due.is("16 waits, each once", x.day(1), 12 + 23);
    }

    private static void theThird() {
        NodBench x = new NodBench();
        Due.people(x, "0p0;0p0;0p0");
        x.set(5, 2);
        fate("one is too few", x, 2, CUT, 10, 10, 0);
        x.set(5, 1);
        fate("one is enough", x, 2, CUT, 0, 0, 2);
        due.is("15 under 2", x.at(19, 4), 2);
        due.is("15 under 2", x.at(20, 4), NONE);
        due.is("16 minutes", x.day(8), 20);
        x.set(5, 0);
        fate("none is enough", x, 2, CUT, 0, 0, 2);
        NodBench y = busy("1o0:30;7g0:2");
        y.set(5, 2);
        fate("out ones count, grouped ones once", y, 3, CUT, 0, 7, 2);
        y.set(5, 3);
        fate("two are too few", y, 3, CUT, 23, 30, 0);
        NodBench z = new NodBench();
        z.set(5, 1);
        Due.people(z, "225p0;225p0;225p0;230p0;230p0;239p0");
        due.is("16 till 239", z.day(8), 15);
    }

    private static void byManners() {
        NodBench x = busy("1p0;2t0:99;3t0:99");
        Due.manners(x, "tp");
        fate("tired before plain", x, 3, CUT, 28, 30, 0);
        fate("the second of them", x, 4, CUT, 33, 36, 1);
        fate("plain last", x, 2, CUT, 39, 40, 0);
        x.set(7, 0);
        fate("no manners by rule 0", x, 2, CUT, 29, 30, 0);
        x.set(7, 1);
        Due.manners(x, "tp,pt");
        fate("told both ways: by place", x, 2, CUT, 29, 30, 0);
        Due.manners(x, "tc,cp");
        fate("not from one to the next", x, 2, CUT, 29, 30, 0);
        due.is("16 no quarrels", x.day(7), 0);
    }

    private static void rings() {
        NodBench x = busy("1p0;2t0:99;3l0:3;50p0");
        Due.manners(x, "pt,tl,lp");
        fate("in a ring: by place", x, 2, CUT, 29, 30, 0);
        fate("two are no ring", x, 3, CUT, 34, 36, 1);
        due.is("16 one quarrel", x.day(7), 1);
        x.person(4, 0, 0, 0);
        due.is("two in a ring with two", x.fate(2, 2), 30);
        due.is("16 two quarrels", x.day(7), 2);
        x.set(7, 2);
        due.is("16 none by another rule", x.day(7), 0);
        NodBench y = busy("1t0:99;2o0:5;3l0:3");
        Due.manners(y, "ot,tl");
        fate("two told, one by place: no ring", y, 3, CUT, 28, 30, 0);
        fate("two told, one by place: no ring", y, 2, CUT, 35, 36, 1);
        due.is("16 no quarrel", y.day(7), 0);
        NodBench v = new NodBench();
        Due.people(v, "3p0;2p0;0p3;0p3");
        fate("the second told came first", v, 1, CUT, 28, 30, 0);
        due.is("16 not before whom it came behind", v.day(7), 0);
        NodBench w = new NodBench();
        Due.people(w, "1p0;2t0:99;3l0:3;0p3;0p3");
        Due.manners(w, "pt,tl,lp");
        fate("the first told in a ring", w, 0, CUT, 29, 30, 0);
        due.is("16 with the first told", w.day(7), 1);
        NodBench t = new NodBench();
        Due.people(t, "1p0;2t0:99;3l0:3;0p3;0p3");
        Due.manners(t, "tp,lt,pl");
        fate("the other way round", t, 0, CUT, 29, 30, 0);
        due.is("16 the other way round", t.day(7), 1);
        NodBench u = new NodBench();
        Due.people(u, "9l0:2;2p0;2t0:99;0p3;0p3");
        Due.manners(u, "pt,tl");
        fate("like places in a ring: the lesser number", u, 0, CUT, 21, 30, 0);
        due.is("16 like places in a ring", u.day(7), 1);
        NodBench z = busy("1p0;2t0:99;3l0:0");
        Due.manners(z, "pt,tl");
        fate("two told, one by place: the least place", z, 4, CUT, 27, 30, 0);
        due.is("16 a quarrel", z.day(7), 1);
    }

    private static void byShorter() {
        NodBench x = busy("1p3;2p1;3p1;4g0:2");
        x.set(7, 2);
        fate("shorter", x, 3, CUT, 28, 30, 0);
        fate("like ones by place", x, 4, CUT, 33, 36, 1);
        fate("then twenty", x, 5, CUT, 41, 45, 0);
        fate("the longest last", x, 2, CUT, 53, 54, 1);
        NodBench y = busy("1c0:0;2p0");
        y.set(7, 2);
        fate("talk counts", y, 3, CUT, 28, 30, 0);
        y.cut(0, 0, 60);
        y.price(0, 0);
        fate("by that cutter's need", y, 3, CUT, 28, 30, 0);
        NodBench v = new NodBench();
        Due.people(v, "3p1;2p1;0p3;0p3");
        v.set(7, 2);
        fate("like ones by place, not by number", v, 1, CUT, 28, 30, 0);
        v.cut(0, 1, 30);
        v.strike(1);
        v.person(4, 0, 2, 0);
        v.cut(0, 2, 29);
        fate("one minute shorter", v, 3, CUT, 26, 30, 0);
        v.cut(0, 2, 31);
        fate("one minute longer", v, 0, CUT, 27, 30, 0);
        NodBench z = busy("1p1;2p0");
        z.set(7, 2);
        z.cut(0, 1, 1);
        fate("by cutter 0 the other one is shorter", z, 2, CUT, 29, 30, 0);
    }

    private static void theEnd() {
        NodBench x = new NodBench();
        Due.people(x, "239p0;239p0;239p0;230c0:0");
        fate("begins in the last minute", x, 0, CUT, 0, 239, 1);
        fate("begins at 230", x, 3, CUT, 0, 230, 0);
        fate("nothing begins behind 239", x, 1, VAIN, 1, NONE, NONE);
    }

    private static void figures() {
        NodBench x = busy("1t0:5;2c0:2;3g2:2;4g0:4");
        due.is("16 coin", x.day(0), 30 + 30 + 40);
        due.is("16 waits", x.day(1), 5 + 238 + 27);
        due.is("16 the most", x.day(2), 238);
        due.is("16 turned", x.day(3), 1);
        due.is("16 gone", x.day(4), 1);
        due.is("16 cut", x.day(5), 3);
        due.is("16 in vain", x.day(6), 1);
        due.is("15 in vain till the end", x.at(239, 0), 1);
    }

    private static void changesAreSeen() {
        NodBench x = new NodBench();
        x.person(0, 0, 0, 0);
        due.is("one", x.day(5), 1);
        Due.people(x, "0p0;0p0");
        due.is("three", x.day(5), 3);
        x.image();
        x.strike(0);
        due.is("two", x.day(5), 2);
        x.restore();
        due.is("three again", x.day(5), 3);
        due.is("waits", x.day(1), 10);
        x.cut(0, 0, 3);
        due.is("waits", x.day(1), 3);
        x.set(3, 2);
        due.is("waits", x.day(1), 5);
        x.person(200, 0, 0, 0);
        due.is("one more", x.day(5), 4);
        x.set(3, 0);
        due.is("waits", x.day(1), 3);
        x.cut(0, 0, 4);
        due.is("waits", x.day(1), 4);
        x.price(0, 1);
        due.is("coin", x.day(0), 4);
        x.restore();
        due.is("waits as then", x.day(1), 10);
        x.set(7, 2);
        Due.people(x, "0t3:20");
        due.is("by shorter", x.fate(3, 1), 12);
        x.set(7, 1);
        due.is("by place", x.fate(3, 1), 12);
        Due.manners(x, "tp");
        due.is("by manners", x.fate(3, 1), 0);
    }
}
