/** Promises 1 to 13, sentence by sentence. */
final class ShopCallEdges {
    private static final int BAD = NodBench.BAD, FULL = NodBench.FULL, NONE = NodBench.NONE;
    private static final int MIN = Integer.MIN_VALUE, MAX = Integer.MAX_VALUE;

    private ShopCallEdges() {
    }

    static void tell(Edges edges) {
        edges.section("Promise 1");
        edges.says("Nobody comes.", ShopCallEdges::nobodyComes);
        edges.section("Promise 2");
        edges.says("A SETTING: what it was.", ShopCallEdges::setting);
        edges.says("BAD.", d -> Refusals.answer(d, BAD, "set"));
        edges.section("Promise 3");
        edges.says("What a CUTTER needs for a SORT: what it was.", ShopCallEdges::need);
        edges.says("BAD.", d -> Refusals.answer(d, BAD, "cut"));
        edges.section("Promise 4");
        edges.says("PRICE of a SORT: what it was.", ShopCallEdges::price);
        edges.says("BAD.", d -> Refusals.answer(d, BAD, "price"));
        edges.section("Promise 5");
        edges.says("One of PEOPLE: the number.", ShopCallEdges::person);
        edges.says("BAD;", d -> Refusals.answer(d, BAD, "person"));
        edges.says("FULL: 12.", ShopCallEdges::fullOfPeople);
        edges.section("Promise 6");
        edges.says("Of one of PEOPLE: 0 MINUTE, 1 KIND, 2 SORT, 3 the number.", ShopCallEdges::told);
        edges.says("BAD.", ShopCallEdges::toldOfNobody);
        strike(edges);
        tape(edges);
        manners(edges);
        people(edges);
        edges.section("Promise 13");
        edges.says("How many: 0 PEOPLE, 1 MANNERS, 2 WORDS.", ShopCallEdges::count);
        edges.says("BAD.", d -> Refusals.answer(d, BAD, "count"));
    }

    private static void strike(Edges edges) {
        edges.section("Promise 7");
        edges.says("One of PEOPLE does not come any more: how many are left", ShopCallEdges::left);
        edges.says("(those behind it go one down;", ShopCallEdges::oneDown);
        edges.says("WORDS that name it go).", ShopCallEdges::wordsGo);
        edges.says("BAD.", ShopCallEdges::strikeNobody);
    }

    private static void tape(Edges edges) {
        edges.section("Promise 8");
        edges.says("The n lowest bytes (1 .. 8) of w, of these the highest first, come behind THE TAPE:", ShopCallEdges::bytes);
        edges.says("how many it has.", ShopCallEdges::howManyBytes);
        edges.says("BAD: n, a byte not 32 .. 126;", ShopCallEdges::badBytes);
        edges.says("FULL: 80.", ShopCallEdges::fullTape);
    }

    private static void manners(Edges edges) {
        edges.section("Promise 9");
        edges.says("THE TAPE, which is empty then (whatever is answered),", ShopCallEdges::mannersEmptyTheTape);
        edges.says("is MANNERS (in place of those told): how many.", ShopCallEdges::inPlaceOfThoseTold);
        edges.says("A FAULT (they stay).", ShopCallEdges::mannersStay);
        edges.section("Promise 10");
        edges.says("Whether one KIND goes before another one by MANNERS (1, 0;", ShopCallEdges::before);
        edges.says("also if they tell both).", ShopCallEdges::both);
        edges.says("BAD: also one KIND.", d -> Refusals.answer(d, BAD, "before"));
        edges.section("Promise 11");
        edges.says("KINDS that are in some round of MANNERS (from one to the next back to itself), as a set.",
            ShopCallEdges::rounds);
    }

    private static void people(Edges edges) {
        edges.section("Promise 12");
        edges.says("THE TAPE, which is empty then (whatever is answered),", ShopCallEdges::peopleEmptyTheTape);
        edges.says("is PEOPLE that come, too: how many.", ShopCallEdges::peopleCome);
        edges.says("A FAULT (none comes);", ShopCallEdges::noneComesByAFault);
        edges.says("FULL: not all have room (none comes).", ShopCallEdges::noneComesWithoutRoom);
    }

    private static void nobodyComes(Due due) {
        NodBench x = new NodBench();
        for (int what = 0; what < 3; what++) {
            due.is("count " + what, x.count(what), 0);
        }
        for (int what = 0; what <= 8; what++) {
            due.is("day " + what, x.day(what), 0);
        }
        for (int minute = 0; minute < 240; minute++) {
            due.is("waits", x.at(minute, 0), 0);
            due.is("is cut", x.at(minute, 2), NONE);
        }
        due.is("nobody to strike", x.strike(0), BAD);
        due.is("no WORDS", x.hush(), 0);
        due.is("no MANNERS", x.rounds(), 0);
        due.is("no IMAGE", x.restore(), NONE);
        due.is("no TAPE", x.type(' ', 1), 1);
        due.is("no FIRST", x.first(), 0);
        due.is("no DROPS", x.drops(), 0);
        due.is("no CHOOSERS COST", x.choosers(), 0);
    }

    private static void setting(Due due) {
        int[] first = {7, 10, 60, 0, 5, 13, 1, 1};
        int[] next = {1, 40, 239, 10, 20, 0, 0, 2};
        NodBench x = new NodBench();
        for (int what = 0; what < 8; what++) {
            due.is("at first " + what, x.set(what, next[what]), first[what]);
        }
        for (int what = 0; what < 8; what++) {
            due.is("a refused one " + what, x.set(what, -1), BAD);
            due.is("was " + what, x.set(what, first[what]), next[what]);
            due.is("to what it is " + what, x.set(what, first[what]), first[what]);
        }
    }

    private static void need(Due due) {
        NodBench x = new NodBench();
        for (int place = 0; place < 12; place++) {
            x.cut(place / 4, place % 4, 40 + place);
        }
        for (int place = 0; place < 12; place++) {
            due.is("a refused one", x.cut(place / 4, place % 4, 61), BAD);
            due.is("each its own", x.cut(place / 4, place % 4, 1), 40 + place);
            due.is("was 1", x.cut(place / 4, place % 4, 60), 1);
        }
    }

    private static void price(Due due) {
        NodBench x = new NodBench();
        for (int sort = 0; sort < 4; sort++) {
            x.price(sort, 50 + sort);
        }
        for (int sort = 0; sort < 4; sort++) {
            due.is("a refused one", x.price(sort, 100), BAD);
            due.is("each its own", x.price(sort, 0), 50 + sort);
            due.is("was 0", x.price(sort, 99), 0);
        }
    }

    private static void person(Due due) {
        NodBench x = new NodBench();
        int[][] rows = {{0, 0, 0, 0}, {239, 0, 3, 0}, {5, 1, 1, 0}, {5, 1, 2, 2}, {5, 2, 3, 2}, {5, 2, 0, 4}, {5, 3, 1, 1},
            {5, 3, 2, 99}, {5, 4, 3, 0}, {5, 4, 0, 5}, {5, 5, 1, 1}, {5, 5, 2, 99}};
        for (int i = 0; i < 12; i++) {
            due.is("the number", x.person(rows[i][0], rows[i][1], rows[i][2], rows[i][3]), i);
            due.is("one refused", x.person(5, 6, 0, 0), BAD);
            due.is("so many", x.count(0), i + 1);
        }
        for (int i = 0; i < 48; i++) {
            due.is("told", x.told(i / 4, i % 4), rows[i / 4][i % 4]);
        }
        x.strike(3);
        due.is("one does not come", x.day(3) + x.day(4) + x.day(5) + x.day(6), 11);
        due.is("a number that is free again", x.person(1, 0, 0, 0), 11);
        due.is("and comes", x.day(3) + x.day(4) + x.day(5) + x.day(6), 12);
    }

    private static void fullOfPeople(Due due) {
        NodBench x = Due.with("0p0;0p0;0p0;0p0;0p0;0p0", "0p0;0p0;0p0;0p0;0p0");
        due.is("the twelfth", x.person(0, 0, 0, 0), 11);
        due.is("the thirteenth", x.person(0, 0, 0, 0), FULL);
        due.is("not told", x.count(0), 12);
        due.is("BAD goes ahead", x.person(0, 0, 0, 1), BAD);
        x.strike(0);
        due.is("room again", x.person(0, 0, 0, 0), 11);
        due.is("full again", x.person(0, 0, 0, 0), FULL);
    }

    private static void told(Due due) {
        NodBench x = Due.with("239p3;9c1:2;7g2:4;6o0:99;5l3:5;4t1:1");
        int[][] want = {{239, 0, 3, 0}, {9, 1, 1, 2}, {7, 2, 2, 4}, {6, 3, 0, 99}, {5, 4, 3, 5}, {4, 5, 1, 1}};
        for (int i = 0; i < 24; i++) {
            due.is("told " + i / 4 + " " + i % 4, x.told(i / 4, i % 4), want[i / 4][i % 4]);
        }
    }

    private static void toldOfNobody(Due due) {
        Refusals.answer(due, BAD, "told");
        NodBench x = new NodBench();
        due.is("nobody is told", x.told(0, 0), BAD);
        x.person(1, 0, 0, 0);
        due.is("one is", x.told(0, 0), 1);
        due.is("the next is not", x.told(1, 0), BAD);
        x.strike(0);
        due.is("nobody any more", x.told(0, 0), BAD);
    }

    private static void left(Due due) {
        NodBench x = Due.with("0p0;1p0;2p0;3p0;4p0;5p0", "6p0;7p0;8p0;9p0;10p0;11p0");
        for (int left = 11; left >= 0; left--) {
            due.is("are left", x.strike(left), left);
            due.is("told", x.count(0), left);
            due.is("come", x.day(3) + x.day(5), left);
            due.is("the first one stays", x.told(0, 0), left == 0 ? BAD : 0);
        }
        due.is("nobody is left", x.strike(0), BAD);
        NodBench y = Due.with("0p3;0p3;1p0");
        due.is("he waits for them", y.fate(2, 2), 30);
        y.strike(0);
        due.is("1 is free now", y.fate(1, 2), 1);
    }

    private static void oneDown(Due due) {
        for (int gone = 0; gone < 5; gone++) {
            NodBench x = Due.with("1p3;2c1:1;3g2:2;4o0:9;5t3:7");
            int[][] rows = {{1, 0, 3, 0}, {2, 1, 1, 1}, {3, 2, 2, 2}, {4, 3, 0, 9}, {5, 5, 3, 7}};
            due.is("are left", x.strike(gone), 4);
            for (int i = 0; i < 16; i++) {
                int was = i / 4 < gone ? i / 4 : i / 4 + 1;
                due.is("without " + gone + " told " + i / 4, x.told(i / 4, i % 4), rows[was][i % 4]);
            }
            due.is("nobody more", x.told(4, 0), BAD);
        }
    }

    private static void wordsGo(Due due) {
        for (int gone = 0; gone < 4; gone++) {
            NodBench x = Due.with("0p0;0p0;0p0;0p0");
            x.word(0, 1);
            x.word(1, 2);
            x.word(2, 3);
            x.strike(gone);
            due.is("without " + gone, x.count(2), gone == 0 || gone == 3 ? 2 : 1);
            int[] first = {1, 1 | 2, 1 | 4, 1};
            due.is("the others name the same ones: FIRST without " + gone, x.first(), first[gone]);
            due.is("ORDERS without " + gone, x.orders(7), gone == 0 || gone == 3 ? 1 : 3);
        }
        NodBench x = Due.with("0p0;0p0;0p0");
        x.word(0, 1);
        x.word(1, 2);
        x.word(2, 1);
        due.is("of three", x.drops(), 2);
        x.strike(0);
        due.is("those behind it go down, too", x.drops(), 1);
        NodBench y = Due.with("0p0;0p0;0p0;0p0");
        y.word(0, 1);
        y.word(3, 2);
        y.word(2, 1);
        y.strike(0);
        due.is("3 ahead of 2 ahead of 1 are 2 ahead of 1 ahead of 0", y.first(), 4);
        due.is("in a line", y.orders(7), 1);
        due.is("a new one's number", x.word(0, 1), 2);
    }

    private static void strikeNobody(Due due) {
        Refusals.answer(due, BAD, "strike");
        NodBench x = new NodBench();
        due.is("nobody is told", x.strike(0), BAD);
        x.person(0, 0, 0, 0);
        due.is("the next", x.strike(1), BAD);
        due.is("below", x.strike(-1), BAD);
        due.is("one stays", x.count(0), 1);
    }

    private static void bytes(Due due) {
        String text = "12p3;45p";
        for (int n = 1; n <= 8; n++) {
            NodBench x = new NodBench();
            long above = n == 8 ? 0 : 0xFF00FF1F7F80FFFFL << 8 * n;
            due.is("bytes", x.type(above | Due.packed(text.substring(0, n)), n), n);
            if (n < 8) {
                due.is("the rest behind", x.type(Due.packed(text.substring(n)), 8 - n), 8);
            }
            due.is("and one more", x.type('2', 1), 9);
            due.is("two come", x.people(), 2);
            due.is("the first", x.told(0, 0), 12);
            due.is("the second", x.told(1, 0), 45);
            due.is("its SORT", x.told(1, 2), 2);
        }
    }

    private static void howManyBytes(Due due) {
        NodBench x = new NodBench();
        int many = 0;
        for (int n = 1; n <= 8; n++) {
            many += n;
            due.is("so many", x.type(0x2020202020202020L, n), many);
        }
        due.is("a refused one", x.type(0, 1), BAD);
        due.is("one more", x.type(' ', 1), many + 1);
        x.manners();
        due.is("empty, and one", x.type(' ', 1), 1);
    }

    private static void badBytes(Due due) {
        Refusals.answer(due, BAD, "type");
        for (int sign = 0; sign < 256; sign++) {
            NodBench x = new NodBench();
            boolean isRight = sign >= 32 && sign <= 126;
            due.is("byte " + sign, x.type(sign, 1), isRight ? 1 : BAD);
            due.is("highest byte " + sign, x.type((long) sign << 56 | 0x20202020202020L, 8), isRight ? 9 : BAD);
            due.is("so many", x.type(' ', 1), isRight ? 10 : 1);
        }
        for (int wrong : new int[] {0, 9, -1, 64, 256 + 1, MIN, MIN + 1, MAX}) {
            due.is("n " + wrong, new NodBench().type(0x2020202020202020L, wrong), BAD);
        }
    }

    private static void fullTape(Due due) {
        for (int n = 1; n <= 8; n++) {
            NodBench x = new NodBench();
            Due.type(x, " ".repeat(80 - n));
            due.is("80", x.type(0x2020202020202020L, n), 80);
            due.is("81", x.type(' ', 1), FULL);
            due.is("all are read", x.people(), -20 - 80);
            Due.type(x, " ".repeat(81 - n));
            due.is("81 by " + n, x.type(0x2020202020202020L, n), FULL);
            due.is("none of them came", x.people(), -20 - 81 + n);
        }
        NodBench x = new NodBench();
        Due.type(x, " ".repeat(80));
        due.is("BAD goes ahead", x.type(31, 1), BAD);
    }

    private static void mannersEmptyTheTape(Due due) {
        String[] texts = {"pc", "pc,go,ol,lt,tp,pg,co,gl", "x", "pp", "", " ".repeat(80)};
        for (String text : texts) {
            NodBench x = new NodBench();
            Due.manners(x, text);
            due.is("behind '" + text + "'", x.manners(), -20);
            due.is("empty, and one", x.type('p', 1), 1);
        }
    }

    private static void inPlaceOfThoseTold(Due due) {
        NodBench x = new NodBench();
        due.is("eight", Due.manners(x, "pc,go,ol,lt,tp,pg,co,gl"), 8);
        due.is("one", Due.manners(x, "lp"), 1);
        due.is("one", x.count(1), 1);
        for (int i = 0; i < 36; i++) {
            if (i / 6 != i % 6) {
                due.is("before " + i / 6 + " " + i % 6, x.before(i / 6, i % 6), i == 24 ? 1 : 0);
            }
        }
        due.is("no round", x.rounds(), 0);
    }

    private static void mannersStay(Due due) {
        NodBench x = Due.with("0p3;0p3;1p0;2t0:99");
        Due.manners(x, "tp,go");
        String[] wrong = {"", "lt,", "lt,pt,x", "pt,tt", "pc,go,ol,lt,tp,pg,co,gl,cl"};
        int[] fault = {-20, -23, -26, -24, -43};
        for (int i = 0; i < wrong.length; i++) {
            due.is("'" + wrong[i] + "'", Due.manners(x, wrong[i]), fault[i]);
            due.is("how many", x.count(1), 2);
            due.is("t before p", x.before(5, 0), 1);
            due.is("not p before t", x.before(0, 5), 0);
            due.is("not l before t", x.before(4, 5), 0);
            due.is("the day", x.fate(3, 2), 30);
        }
    }

    private static void before(Due due) {
        NodBench x = new NodBench();
        due.is("none told", x.before(0, 5), 0);
        Due.manners(x, "pc,cg,to");
        due.is("told", x.before(0, 1), 1);
        due.is("told", x.before(1, 2), 1);
        due.is("told", x.before(5, 3), 1);
        due.is("the other way", x.before(1, 0), 0);
        due.is("the other way", x.before(3, 5), 0);
        due.is("not over another one", x.before(0, 2), 0);
        due.is("not told", x.before(4, 5), 0);
    }

    private static void both(Due due) {
        NodBench x = new NodBench();
        Due.manners(x, "pt,tp");
        due.is("both", x.before(0, 5), 1);
        due.is("both", x.before(5, 0), 1);
        due.is("two", x.count(1), 2);
    }

    private static void rounds(Due due) {
        NodBench x = new NodBench();
        due.is("none told", x.rounds(), 0);
        String[] texts = {"pc", "pc,cg,go,ol,lt", "pt,tp", "lt,tl", "pc,cg,gp", "pc,cg,gp,po,ol,tc", "pc,cg,go,ol,lt,tp",
            "pc,cp,go,og,lt,tl", "pc,cp,cg,go,ot,to", "pc,cg,pg,go,po,co", "pc,pc,pc"};
        int[] want = {0, 0, 1 + 32, 16 + 32, 1 + 2 + 4, 1 + 2 + 4, 63, 63, 1 + 2 + 8 + 32, 0, 0};
        for (int i = 0; i < texts.length; i++) {
            Due.manners(x, texts[i]);
            due.is(texts[i], x.rounds(), want[i]);
        }
        Due.manners(x, "cp,pc,x");
        due.is("behind a FAULT", x.rounds(), 0);
    }

    private static void peopleEmptyTheTape(Due due) {
        String[] texts = {"0p0", "x", "", "0p0;", "999p0", " ".repeat(80), "0p0;0p0;0p0;0p0;0p0;0p0"};
        for (String text : texts) {
            NodBench x = Due.with("0p0;0p0;0p0;0p0;0p0;0p0;0p0");
            Due.people(x, text);
            due.is("behind '" + text + "'", x.people(), -20);
            due.is("empty, and one", x.type('5', 1), 1);
        }
    }

    private static void peopleCome(Due due) {
        NodBench x = Due.with("9p3");
        due.is("three", Due.people(x, "8p0;7g1:4;6t2:5"), 3);
        due.is("four by now", x.count(0), 4);
        due.is("behind those told", x.told(1, 0), 8);
        due.is("as told", x.told(2, 3), 4);
        due.is("the last one", x.told(3, 1), 5);
        due.is("those told stay", x.told(0, 0), 9);
        due.is("eight", Due.people(x, "1p0;1p0;1p0;1p0;1p0;1p0;1p0;1p0"), 8);
        due.is("twelve", x.count(0), 12);
        due.is("they come", x.day(3) + x.day(4) + x.day(5) + x.day(6), 12);
    }

    private static void noneComesByAFault(Due due) {
        NodBench x = Due.with("0p0");
        String[] wrong = {"", "1p0;", "1p0;2p0;240p0", "1p0;2p0;3p0;4p0;5p0;6p0;7p0;8q0", "1p0;2p0;3p0;4p0;5p0;6p0;7p0;8p0;9p0"};
        int[] fault = {-20, -24, -28, -20 - 29, -20 - 31};
        for (int i = 0; i < wrong.length; i++) {
            due.is("'" + wrong[i] + "'", Due.people(x, wrong[i]), fault[i]);
            due.is("one", x.count(0), 1);
            due.is("one", x.day(5), 1);
        }
    }

    private static void noneComesWithoutRoom(Due due) {
        NodBench x = Due.with("0p0;0p0;0p0;0p0;0p0;0p0;0p0");
        due.is("six for five", Due.people(x, "1p0;1p0;1p0;1p0;1p0;1p0"), FULL);
        due.is("none comes", x.count(0), 7);
        due.is("five for five", Due.people(x, "1p0;1p0;1p0;1p0;1p0"), 5);
        due.is("one for none", Due.people(x, "1p0"), FULL);
        due.is("a FAULT goes ahead", Due.people(x, "1p0;"), -24);
        due.is("twelve", x.count(0), 12);
    }

    private static void count(Due due) {
        NodBench x = new NodBench();
        for (int i = 1; i <= 12; i++) {
            x.person(0, 0, 0, 0);
            due.is("PEOPLE", x.count(0), i);
        }
        for (int i = 1; i <= 12; i++) {
            x.word(0, 1);
            due.is("WORDS", x.count(2), i);
        }
        due.is("no MANNERS", x.count(1), 0);
        Due.manners(x, "pc,go,ol,lt,tp,pg,co,gl");
        due.is("MANNERS", x.count(1), 8);
        due.is("PEOPLE still", x.count(0), 12);
        x.hush();
        due.is("no WORDS", x.count(2), 0);
    }
}
