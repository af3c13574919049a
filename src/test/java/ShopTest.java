/** Promises 1 to 13: the shop, people. */
final class ShopTest {
    private static final int BAD = NodBench.BAD, FULL = NodBench.FULL;
    private static final Due due = new Due();

    public static void main(String[] args) {
        aNewObject();
        set();
        cut();
        price();
        person();
        told();
        strike();
        type();
        manners();
        before();
        rounds();
        people();
        faultsOfPeople();
        count();
        due.close("ShopTest");
    }

    private static void aNewObject() {
        NodBench x = new NodBench();
        for (int what = 0; what <= 2; what++) {
            due.is("1 count " + what, x.count(what), 0);
        }
        for (int what = 0; what <= 8; what++) {
            due.is("1 day " + what, x.day(what), 0);
        }
        due.is("1 told", x.told(0, 0), BAD);
        due.is("1 restore", x.restore(), NodBench.NONE);
        due.is("1 people", x.people(), -20);
    }

    private static void set() {
        int[] first = {7, 10, 60, 0, 5, 13, 1, 1};
        int[] least = {1, 0, 0, 0, 0, 0, 0, 0};
        int[] most = {12, 40, 239, 10, 20, 13, 1, 2};
        NodBench x = new NodBench();
        for (int what = 0; what < 8; what++) {
            due.is("2 below " + what, x.set(what, least[what] - 1), BAD);
            due.is("2 above " + what, x.set(what, most[what] + 1), BAD);
            due.is("2 least " + what, x.set(what, least[what]), first[what]);
            due.is("2 most " + what, x.set(what, most[what]), least[what]);
            due.is("2 again " + what, x.set(what, least[what]), most[what]);
        }
        due.is("2 no setting", x.set(-1, 1), BAD);
        due.is("2 no setting", x.set(8, 1), BAD);
    }

    private static void cut() {
        int[][] first = {{10, 15, 20, 30}, {12, 18, 24, 36}, {20, 30, 40, 60}};
        NodBench x = new NodBench();
        for (int c = 0; c < 3; c++) {
            for (int sort = 0; sort < 4; sort++) {
                due.is("3 below", x.cut(c, sort, 0), BAD);
                due.is("3 above", x.cut(c, sort, 61), BAD);
                due.is("3 first", x.cut(c, sort, 60), first[c][sort]);
                due.is("3 then", x.cut(c, sort, 1 + c + sort), 60);
            }
        }
        due.is("3 each its own", x.cut(1, 2, 5), 4);
        due.is("3 no cutter", x.cut(3, 0, 5), BAD);
        due.is("3 no cutter", x.cut(-1, 0, 5), BAD);
        due.is("3 no sort", x.cut(0, 4, 5), BAD);
        due.is("3 no sort", x.cut(0, -1, 5), BAD);
        due.is("3 begins", x.person(0, 0, 0, 0), 0);
        due.is("3 cut takes one minute", x.at(1, 2), NodBench.NONE);
        x.cut(0, 0, 2);
        due.is("3 cut takes two minutes", x.at(1, 2), 0);
    }

    private static void price() {
        int[] first = {10, 15, 20, 30};
        NodBench x = new NodBench();
        for (int sort = 0; sort < 4; sort++) {
            due.is("4 below", x.price(sort, -1), BAD);
            due.is("4 above", x.price(sort, 100), BAD);
            due.is("4 first", x.price(sort, 99), first[sort]);
            due.is("4 then", x.price(sort, 0), 99);
        }
        due.is("4 no sort", x.price(4, 1), BAD);
        due.is("4 no sort", x.price(-1, 1), BAD);
        x.price(2, 7);
        x.person(0, 0, 2, 0);
        due.is("4 coin", x.day(0), 7);
        x.price(2, 8);
        due.is("4 coin by the new price", x.day(0), 8);
    }

    private static void person() {
        NodBench x = new NodBench();
        int[][] wrong = {{-1, 0, 0, 0}, {240, 0, 0, 0}, {5, -1, 0, 0}, {5, 6, 0, 0}, {5, 0, -1, 0}, {5, 0, 4, 0},
            {5, 0, 0, 1}, {5, 0, 0, -1}, {5, 1, 0, -1}, {5, 1, 0, 3}, {5, 2, 0, 1}, {5, 2, 0, 5}, {5, 3, 0, 0},
            {5, 3, 0, 100}, {5, 4, 0, -1}, {5, 4, 0, 6}, {5, 5, 0, 0}, {5, 5, 0, 100}};
        for (int[] w : wrong) {
            due.is("5 wrong", x.person(w[0], w[1], w[2], w[3]), BAD);
        }
        int[][] right = {{0, 0, 0, 0}, {239, 0, 3, 0}, {5, 1, 0, 0}, {5, 1, 0, 2}, {5, 2, 0, 2}, {5, 2, 0, 4},
            {5, 3, 0, 1}, {5, 3, 0, 99}, {5, 4, 0, 0}, {5, 4, 0, 5}, {5, 5, 0, 1}, {5, 5, 0, 99}};
        for (int i = 0; i < 12; i++) {
            due.is("5 right", x.person(right[i][0], right[i][1], right[i][2], right[i][3]), i);
        }
        due.is("5 full", x.person(0, 0, 0, 0), FULL);
        due.is("5 bad before full", x.person(0, 0, 0, 1), BAD);
        due.is("5 refused ones are not told", x.count(0), 12);
    }

    private static void told() {
        NodBench x = new NodBench();
        x.person(7, 4, 3, 2);
        x.person(9, 5, 1, 33);
        int[] want = {9, 5, 1, 33};
        for (int what = 0; what < 4; what++) {
            due.is("6 told " + what, x.told(1, what), want[what]);
        }
        due.is("6 the first one", x.told(0, 3), 2);
        due.is("6 nobody", x.told(2, 0), BAD);
        due.is("6 nobody", x.told(-1, 0), BAD);
        due.is("6 nothing", x.told(0, 4), BAD);
        due.is("6 nothing", x.told(0, -1), BAD);
    }

    private static void strike() {
        NodBench x = new NodBench();
        Due.people(x, "1p0;2p1;3p2;4p3");
        due.is("7 nobody", x.strike(4), BAD);
        due.is("7 nobody", x.strike(-1), BAD);
        x.word(0, 1);
        x.word(2, 3);
        x.word(3, 2);
        x.word(1, 2);
        due.is("7 drops before", x.drops(), 2);
        due.is("7 left", x.strike(1), 3);
        due.is("7 those behind go down", x.told(1, 0), 3);
        due.is("7 those behind go down", x.told(2, 2), 3);
        due.is("7 words that name it go", x.count(2), 2);
        due.is("7 the others name the same ones", x.drops(), 1);
        due.is("7 who is first", x.first(), 1 | 4);
        due.is("7 first one", x.strike(0), 2);
        due.is("7 last one", x.strike(1), 1);
        due.is("7 all words gone", x.count(2), 0);
        due.is("7 the last of all", x.strike(0), 0);
        due.is("7 nobody is left", x.strike(0), BAD);
        due.is("7 nobody comes", x.day(5), 0);
        strikeOneOfMany();
    }

    private static void strikeOneOfMany() {
        NodBench x = new NodBench();
        Due.people(x, "1c0:1;2g1:2;3o2:33;4l3:3;5t0:55;6p1");
        x.word(1, 0);
        x.word(5, 2);
        x.word(2, 5);
        due.is("7 five are left", x.strike(1), 5);
        int[][] want = {{1, 1, 0, 1}, {3, 3, 2, 33}, {4, 4, 3, 3}, {5, 5, 0, 55}, {6, 0, 1, 0}};
        for (int p = 0; p < 5; p++) {
            for (int what = 0; what < 4; what++) {
                due.is("7 told " + p + " " + what, x.told(p, what), want[p][what]);
            }
        }
        due.is("7 the first word names it", x.count(2), 2);
        due.is("7 the words behind it", x.drops(), 1);
        x.hush();
        x.word(3, 2);
        x.word(0, 1);
        x.strike(0);
        due.is("7 the first word stays", x.count(2), 1);
        due.is("7 the first word stays, one down", x.first(), 1 | 4 | 8);
        x.hush();
        x.word(0, 3);
        x.strike(3);
        due.is("7 a word that names it second", x.count(2), 0);
    }

    private static void type() {
        NodBench x = new NodBench();
        due.is("8 none", x.type('p', 0), BAD);
        due.is("8 too many", x.type('p', 9), BAD);
        due.is("8 too many", x.type(0x2020202020202020L, 9), BAD);
        due.is("8 far below", x.type('p', Integer.MIN_VALUE), BAD);
        due.is("8 below a blank", x.type(31, 1), BAD);
        due.is("8 above a tilde", x.type(127, 1), BAD);
        due.is("8 a byte far above", x.type(0x70F0, 2), BAD);
        due.is("8 the highest is wrong", x.type(0x0070L, 2), BAD);
        due.is("8 all eight lowest", x.type(-1L, 8), BAD);
        due.is("8 what lies above does not count", x.type(0xFFFFFF20L, 1), 1);
        due.is("8 highest first", Due.type(x, "12p3"), 5);
        due.is("8 read", x.people(), 1);
        due.is("8 minute", x.told(0, 0), 12);
        for (int i = 1; i <= 9; i++) {
            due.is("8 eight more", x.type(0x2020202020202020L, 8), 8 * i);
        }
        due.is("8 bad before full", x.type(1, 8), BAD);
        due.is("8 seven", x.type(0x20202020202020L, 7), 79);
        due.is("8 full", x.type(0x2020, 2), FULL);
        due.is("8 the eightieth", x.type(0x7E, 1), 80);
        due.is("8 full", x.type(0x20, 1), FULL);
        due.is("8 all are read", x.people(), -20 - 79);
        due.is("8 empty again", Due.type(x, "~"), 1);
    }

    private static void manners() {
        NodBench x = new NodBench();
        due.is("9 told", Due.manners(x, "pc,go"), 2);
        String[] wrong = {"", "  ", "p", "p ", "pp", "px", "xp", "p,", "pc,", "pc,p", "pc;go", "pcg", "pc,gg", ",pc",
            "pc,go,ol,lt,tp,pg,co,gl,", "Pc", "p1", "pc,,go", " p c , g g "};
        int[] place = {0, 2, 1, 2, 1, 1, 0, 1, 3, 4, 2, 2, 4, 0, 23, 0, 1, 3, 9};
        for (int i = 0; i < wrong.length; i++) {
            due.is("9 '" + wrong[i] + "'", Due.manners(x, wrong[i]), -20 - place[i]);
            due.is("9 they stay", x.count(1), 2);
        }
        due.is("9 the tape is empty", x.manners(), -20);
        due.is("9 those told stay", x.before(0, 1), 1);
        due.is("9 in place of those told", Due.manners(x, " t  l "), 1);
        due.is("9 in place of those told", x.before(0, 1), 0);
        due.is("9 the new ones", x.before(5, 4), 1);
        due.is("9 eight", Due.manners(x, "pc,go,ol,lt,tp,pg,co,gl"), 8);
        due.is("9 like ones are told twice", Due.manners(x, "pc,pc"), 2);
    }

    private static void before() {
        NodBench x = new NodBench();
        due.is("10 none told", x.before(0, 1), 0);
        Due.manners(x, "pc,cg,lt,tl");
        due.is("10 told", x.before(0, 1), 1);
        due.is("10 the other way", x.before(1, 0), 0);
        due.is("10 not from one to the next", x.before(0, 2), 0);
        due.is("10 both", x.before(4, 5), 1);
        due.is("10 both", x.before(5, 4), 1);
        due.is("10 one kind", x.before(3, 3), BAD);
        due.is("10 no kind", x.before(6, 0), BAD);
        due.is("10 no kind", x.before(0, 6), BAD);
        due.is("10 no kind", x.before(-1, 0), BAD);
        due.is("10 no kind", x.before(0, -1), BAD);
    }

    private static void rounds() {
        NodBench x = new NodBench();
        due.is("11 none", x.rounds(), 0);
        Due.manners(x, "pc,cg,go,ol,lt");
        due.is("11 a line", x.rounds(), 0);
        Due.manners(x, "pc,cg,gp,ol,pt,lp");
        due.is("11 three, with tails", x.rounds(), 7);
        Due.manners(x, "tl,lt,po");
        due.is("11 two", x.rounds(), 48);
        Due.manners(x, "pt,tl,lo,og,gc,cp");
        due.is("11 all", x.rounds(), 63);
        Due.manners(x, "pc,cp,cg,go,ot,to");
        due.is("11 two rounds and one between", x.rounds(), 1 | 2 | 8 | 32);
    }

    private static void people() {
        NodBench x = new NodBench();
        due.is("12 all kinds", Due.people(x, "0p0;1c1:2;2g2:4;3o3:99;4l0:4;5t1:1"), 6);
        int[][] want = {{0, 0, 0, 0}, {1, 1, 1, 2}, {2, 2, 2, 4}, {3, 3, 3, 99}, {4, 4, 0, 4}, {5, 5, 1, 1}};
        for (int p = 0; p < 6; p++) {
            for (int what = 0; what < 4; what++) {
                due.is("12 told " + p + " " + what, x.told(p, what), want[p][what]);
            }
        }
        due.is("12 the tape is empty", x.people(), -20);
        due.is("12 more come", Due.people(x, " 0239 p 1 ; 00000000000000000000000009 o 0 : 00003 "), 2);
        due.is("12 behind the others", x.told(6, 0), 239);
        due.is("12 zeros ahead", x.told(7, 3), 3);
        due.is("12 not all have room", Due.people(x, "0p0;0p0;0p0;0p0;0p0"), FULL);
        due.is("12 none comes", x.count(0), 8);
        due.is("12 the tape is empty behind FULL", x.people(), -20);
        due.is("12 a fault behind those with room", Due.people(x, "0p0;0p0;0p0;0p0;0p0;"), -20 - 20);
        due.is("12 all have room", Due.people(x, "0p0;0p0;0p0;0p0"), 4);
        due.is("12 full", Due.people(x, "0p0"), FULL);
        NodBench y = new NodBench();
        due.is("12 eight", Due.people(y, "1p0;1p0;1p0;1p0;1p0;1p0;1p0;1p0"), 8);
    }

    private static void faultsOfPeople() {
        String[] wrong = {"", "   ", "x", "5", "5 ", "240p0", " 240", "0000240p0", "99999999999999999999p0", "1 2p0", "5 x",
            "5p", "5p4", "5p:", "5px", "5p0:", "5p01", "5p0 1", "5c0", "5c0;", "5c0:", "5c0: ", "5c0:x", "5c0:3", "5c0: 3",
            "5c0:1 2", "5g0:1", "5g0:5", "5o0:0", "5o0:100", "5l0:6", "5t0:0", "5t0:4294967297", "5p0;", "5p0;;", "5p0,6p0",
            "1p0;1p0;1p0;1p0;1p0;1p0;1p0;1p0;", "5p0;300p0", "-1p0", "5l0:-1", "0l0:1"};
        int[] place = {0, 3, 0, 1, 2, 0, 1, 0, 0, 2, 2,
            2, 2, 2, 2, 3, 3, 4, 3, 3, 4, 5, 4, 4, 5,
            6, 4, 4, 4, 4, 4, 4, 4, 4, 4, 3,
            31, 4, 0, 4, 4};
        NodBench x = new NodBench();
        for (int i = 0; i < wrong.length; i++) {
            due.is("12 '" + wrong[i] + "'", Due.people(x, wrong[i]), -20 - place[i]);
            due.is("12 none comes", x.count(0), 0);
        }
    }

    private static void count() {
        NodBench x = new NodBench();
        Due.people(x, "0p0;1p0;2p0");
        Due.manners(x, "pc,cp");
        x.word(0, 2);
        due.is("13 people", x.count(0), 3);
        due.is("13 manners", x.count(1), 2);
        due.is("13 words", x.count(2), 1);
        due.is("13 nothing", x.count(3), BAD);
        due.is("13 nothing", x.count(-1), BAD);
    }
}
