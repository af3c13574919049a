/** Promises 25 to 36, sentence by sentence. */
final class RestCallEdges {
    private static final int BAD = NodBench.BAD, NOT = NodBench.NOT, FULL = NodBench.FULL, NONE = NodBench.NONE;
    private static final int NULL = NodBench.NULL, CAST = NodBench.CAST, INDEX = NodBench.INDEX, SIZE = NodBench.SIZE;
    private static final int MIN = Integer.MIN_VALUE, MAX = Integer.MAX_VALUE;

    private RestCallEdges() {
    }

    static void tell(Edges edges) {
        words(edges);
        images(edges);
        crowd(edges);
        sheets(edges);
        film(edges);
    }

    private static void words(Edges edges) {
        edges.section("Promise 25");
        edges.says("A WORD: its number.", RestCallEdges::word);
        edges.says("BAD: also one of PEOPLE twice;", RestCallEdges::wordOfNobody);
        edges.says("FULL: 12.", RestCallEdges::fullOfWords);
        edges.section("Promise 26");
        edges.says("All WORDS go: how many.", RestCallEdges::hush);
        edges.section("Promise 27");
        edges.says("DROPS, as a set of WORDS.", RestCallEdges::drops);
        edges.section("Promise 28");
        edges.says("FIRST, as a set.", RestCallEdges::first);
        edges.section("Promise 29");
        edges.says("ORDERS of told PEOPLE.", RestCallEdges::orders);
        edges.says("BAD: also none, more than 8.", RestCallEdges::badOrders);
    }

    private static void images(Edges edges) {
        edges.section("Promise 30");
        edges.says("All but SHEETS, THE TAPE is kept as an IMAGE: 1.", RestCallEdges::image);
        edges.section("Promise 31");
        edges.says("All is as it was then: 1.", RestCallEdges::restore);
        edges.says("NONE: there is none.", RestCallEdges::noImage);
    }

    private static void crowd(Edges edges) {
        edges.section("Promise 32");
        edges.says("PEOPLE are told by n rows (1 .. 6) of four items (as person()) of a SHEET, taken as a row of a LANE, from one on:"
            + " n.", RestCallEdges::rows);
        edges.says("BAD;", d -> Refusals.answer(d, BAD, "crowd"));
        edges.says("NULL;", RestCallEdges::crowdOfNothing);
        edges.says("CAST;", RestCallEdges::crowdOfAnotherLane);
        edges.says("INDEX;", RestCallEdges::crowdTooFar);
        edges.says("NOT: one is not as told;", RestCallEdges::crowdNotAsTold);
        edges.says("FULL: not all have room (none comes in these).", RestCallEdges::crowdWithoutRoom);
    }

    private static void sheets(Edges edges) {
        edges.section("Promise 33");
        edges.says("A SHEET holds a new row of a LANE: n.", RestCallEdges::sheet);
        edges.says("BAD: also n above 24;", RestCallEdges::sheetTooLong);
        edges.says("SIZE: n below 0.", RestCallEdges::sheetBelowNone);
        edges.section("Promise 34");
        edges.says("A SHEET holds nothing: how many items it had.", RestCallEdges::drop);
        edges.says("BAD;", d -> Refusals.answer(d, BAD, "drop"));
        edges.says("NULL.", RestCallEdges::dropOfNothing);
        edges.section("Promise 35");
        edges.says("Item i of a SHEET, taken as a row of a LANE, becomes v, its lowest bits (with its sign): 1.", RestCallEdges::item);
        edges.says("BAD;", d -> Refusals.answer(d, BAD, "item"));
        edges.says("NULL;", RestCallEdges::itemOfNothing);
        edges.says("CAST;", RestCallEdges::itemOfAnotherLane);
        edges.says("INDEX.", RestCallEdges::noSuchItem);
    }

    private static void film(Edges edges) {
        edges.section("Promise 36");
        edges.says("WAITS of all, by numbers, come to a SHEET, taken as a row of a LANE, from one on: how many.", RestCallEdges::waits);
        edges.says("BAD;", d -> Refusals.answer(d, BAD, "film"));
        edges.says("NULL;", RestCallEdges::filmOfNothing);
        edges.says("CAST;", RestCallEdges::filmOfAnotherLane);
        edges.says("INDEX (of none, too: from below 0, or above how many there are).", RestCallEdges::filmTooFar);
    }

    // ---- WORDS

    private static NodBench twelve() {
        return Due.with("0p0;0p0;0p0;0p0;0p0;0p0", "0p0;0p0;0p0;0p0;0p0;0p0");
    }

    private static void word(Due due) {
        NodBench x = twelve();
        for (int i = 0; i < 12; i++) {
            due.is("its number", x.word(11 - i, i), i);
            due.is("so many", x.count(2), i + 1);
        }
        x.hush();
        due.is("a refused one has none", x.word(0, 12), BAD);
        due.is("so the next is 0", x.word(0, 11), 0);
    }

    private static void wordOfNobody(Due due) {
        Refusals.answer(due, BAD, "word");
        NodBench x = Due.with("0p0;0p0");
        due.is("one of PEOPLE twice", x.word(1, 1), BAD);
        due.is("one who is not told", x.word(0, 2), BAD);
        due.is("one who is not told", x.word(2, 0), BAD);
        due.is("nobody is told", new NodBench().word(0, 1), BAD);
        x.strike(1);
        due.is("not told any more", x.word(0, 1), BAD);
        due.is("none", x.count(2), 0);
    }

    private static void fullOfWords(Due due) {
        NodBench x = twelve();
        for (int i = 0; i < 11; i++) {
            x.word(0, 1);
        }
        due.is("the twelfth", x.word(10, 11), 11);
        due.is("the thirteenth", x.word(0, 1), FULL);
        due.is("BAD goes ahead", x.word(0, 0), BAD);
        x.strike(11);
        due.is("one went", x.word(0, 1), 11);
        due.is("full again", x.word(0, 1), FULL);
    }

    private static void hush(Due due) {
        NodBench x = twelve();
        due.is("none", x.hush(), 0);
        for (int i = 0; i < 12; i++) {
            x.word(i % 2, 1 - i % 2);
        }
        due.is("they contradict each other", x.drops(), 0x555);
        due.is("twelve", x.hush(), 12);
        due.is("none is left", x.hush(), 0);
        due.is("no DROPS", x.drops(), 0);
        due.is("all are FIRST", x.first(), 4095);
        due.is("all ORDERS", x.orders(3), 2);
        due.is("PEOPLE stay", x.count(0), 12);
    }

    private static void drops(Due due) {
        NodBench x = twelve();
        due.is("no WORDS", x.drops(), 0);
        x.word(0, 1);
        due.is("one", x.drops(), 0);
        x.word(1, 2);
        x.word(2, 0);
        due.is("the first of a round", x.drops(), 1);
        x.word(2, 0);
        due.is("still", x.drops(), 1);
        x.word(0, 1);
        due.is("told twice, so another one", x.drops(), 2);
        for (int i = 5; i < 12; i++) {
            x.word(1, 0);
        }
        due.is("eight for 1 ahead of 0, and 2 that goes with them", x.drops(), 1 + 16);
    }

    private static void first(Due due) {
        NodBench x = twelve();
        due.is("all", x.first(), 4095);
        for (int i = 0; i < 11; i++) {
            x.word(11, i);
        }
        due.is("the last of them", x.first(), 2048);
        x.word(0, 11);
        due.is("the first of the two that contradict each other is dropped", x.first(), 1);
    }

    private static void orders(Due due) {
        NodBench x = twelve();
        due.is("eight", x.orders(255), 40320);
        due.is("the other eight", x.orders(4080), 40320);
        x.word(0, 1);
        due.is("half", x.orders(255), 20160);
        due.is("not among them", x.orders(4080), 40320);
        due.is("one", x.orders(2048), 1);
    }

    private static void badOrders(Due due) {
        Refusals.answer(due, BAD, "orders");
        due.is("nobody is told", new NodBench().orders(1), BAD);
        due.is("none of none", new NodBench().orders(0), BAD);
        NodBench x = twelve();
        due.is("nine", x.orders(511), BAD);
        due.is("eight", x.orders(255), 40320);
        x.strike(0);
        due.is("one who is not told any more", x.orders(2048), BAD);
        due.is("beside one who is", x.orders(2049), BAD);
    }

    // ---- IMAGES

    private static NodBench scene() {
        NodBench x = Due.with("3p1;4t2:9");
        Due.manners(x, "pc,cp");
        x.word(0, 1);
        x.word(1, 0);
        for (int what = 0; what < 8; what++) {
            x.set(what, 1);
        }
        x.cut(2, 3, 7);
        x.price(2, 9);
        return x;
    }

    private static void changeAll(Due due, NodBench x) {
        x.strike(0);
        Due.people(x, "9g3:4;8o1:3");
        Due.manners(x, "lt,to,ol");
        x.hush();
        due.is("no DROPS", x.drops(), 0);
        x.word(2, 1);
        due.is("no DROPS of one", x.drops(), 0);
        for (int what = 0; what < 8; what++) {
            x.set(what, what == 0 ? 9 : 0);
        }
        x.cut(2, 3, 8);
        x.price(2, 10);
    }

    private static void isTheScene(Due due, NodBench x) {
        due.is("PEOPLE", x.count(0), 2);
        int[] rows = {3, 0, 1, 0, 4, 5, 2, 9};
        for (int i = 0; i < 8; i++) {
            due.is("told", x.told(i / 4, i % 4), rows[i]);
        }
        due.is("MANNERS", x.count(1), 2);
        due.is("rounds", x.rounds(), 3);
        due.is("WORDS", x.count(2), 2);
        due.is("DROPS", x.drops(), 1);
        due.is("FIRST", x.first(), 2);
        due.is("the day", x.fate(1, 3), 1);
        due.is("the day's COIN", x.day(0), 15 + 9);
        for (int what = 0; what < 8; what++) {
            due.is("SETTING " + what, x.set(what, 1), 1);
        }
        due.is("need", x.cut(2, 3, 7), 7);
        due.is("PRICE", x.price(2, 9), 9);
    }

    private static void image(Due due) {
        NodBench x = scene();
        x.sheet(0, 1, 5);
        due.is("kept", x.image(), 1);
        isTheScene(due, x);
        changeAll(due, x);
        Due.type(x, "9p");
        x.restore();
        isTheScene(due, x);
        x.sheet(0, 2, 6);
        x.sheet(1, 0, 3);
        Due.type(x, "1;");
        x.restore();
        due.is("SHEETS are not", x.drop(0), 6);
        due.is("SHEETS are not", x.drop(1), 3);
        due.is("THE TAPE is not", x.people(), -24);
        changeAll(due, x);
        due.is("again, in place of the first", x.image(), 1);
        x.strike(0);
        x.restore();
        due.is("the second one", x.count(0), 3);
        due.is("the second one", x.set(0, 1), 9);
        due.is("of nobody", new NodBench().image(), 1);
    }

    private static void restore(Due due) {
        NodBench x = scene();
        x.image();
        due.is("at once", x.restore(), 1);
        isTheScene(due, x);
        for (int turn = 0; turn < 3; turn++) {
            changeAll(due, x);
            due.is("three PEOPLE", x.day(3) + x.day(4) + x.day(5) + x.day(6), 3);
            due.is("turn " + turn, x.restore(), 1);
            isTheScene(due, x);
        }
        NodBench y = new NodBench();
        y.image();
        changeAll(due, y);
        y.restore();
        due.is("nobody", y.count(0), 0);
        due.is("no MANNERS", y.count(1), 0);
        due.is("no WORDS", y.count(2), 0);
        due.is("SEATS at first", y.set(0, 7), 7);
    }

    private static void noImage(Due due) {
        NodBench x = scene();
        due.is("none yet", x.restore(), NONE);
        isTheScene(due, x);
        x.image();
        due.is("one", x.restore(), 1);
        due.is("it stays", x.restore(), 1);
    }

    // ---- SHEETS

    private static final int[] ROWS = {0, 0, 0, 0, 7, 1, 1, 2, 8, 2, 2, 4, 9, 3, 3, 99, 100, 4, 0, 100, 127, 5, 1, 1};

    private static NodBench filled(int sheet, int lane, int size, int from, int... items) {
        NodBench x = new NodBench();
        x.sheet(sheet, lane, size);
        Due.fill(x, sheet, lane, from, items);
        return x;
    }

    private static void rows(Due due) {
        for (int n = 1; n <= 6; n++) {
            for (int lane = 0; lane < 3; lane++) {
                NodBench x = filled(lane, lane, 24, 0, ROWS);
                due.is("n", x.crowd(lane, lane, 24 - 4 * n, n), n);
                due.is("PEOPLE", x.count(0), n);
                for (int i = 0; i < 4 * n; i++) {
                    due.is("told", x.told(i / 4, i % 4), ROWS[24 - 4 * n + i]);
                }
            }
        }
        NodBench x = filled(3, 2, 9, 5, 239, 4, 3, 239);
        x.person(1, 0, 0, 0);
        due.is("from five on", x.crowd(3, 2, 5, 1), 1);
        due.is("behind those told", x.told(1, 0), 239);
        due.is("they come", x.fate(1, 2), 239);
        due.is("one more", x.crowd(3, 2, 5, 1), 1);
        due.is("comes, too", x.day(5), 3);
        for (int wrong : new int[] {0, 7, -1, MIN, MAX}) {
            due.is("rows: " + wrong, x.crowd(3, 2, 0, wrong), BAD);
        }
    }

    private static void crowdOfNothing(Due due) {
        Refusals.answer(due, NULL, "crowd");
        NodBench x = filled(0, 0, 4, 0, 0);
        due.is("another sheet", x.crowd(1, 0, 0, 1), NULL);
        x.drop(0);
        due.is("dropped", x.crowd(0, 0, 0, 1), NULL);
        due.is("ahead of INDEX", x.crowd(0, 0, -1, 6), NULL);
        due.is("nobody", x.count(0), 0);
    }

    private static void crowdOfAnotherLane(Due due) {
        Refusals.answer(due, CAST, "crowd");
        for (int lane = 0; lane < 3; lane++) {
            NodBench x = filled(0, lane, 4, 0, 0);
            for (int as = 0; as < 3; as++) {
                due.is(lane + " as " + as, x.crowd(0, as, 0, 1), as == lane ? 1 : CAST);
                due.is("ahead of INDEX", x.crowd(0, as, 1, 1), as == lane ? INDEX : CAST);
            }
        }
    }

    private static void crowdTooFar(Due due) {
        Refusals.answer(due, INDEX, "crowd");
        for (int size = 0; size <= 24; size++) {
            NodBench x = filled(0, 2, size, 0);
            for (int n = 1; n <= 6; n++) {
                int last = size - 4 * n;
                x.image();
                due.is("below 0", x.crowd(0, 2, -1, n), INDEX);
                due.is("the last of " + size, x.crowd(0, 2, last, n), last < 0 ? INDEX : n);
                x.strike(0);
                due.is("behind it", x.crowd(0, 2, last + 1, n), INDEX);
                due.is("far behind it", x.crowd(0, 2, MAX - 4 * n + 1, n), INDEX);
                due.is("as far as can be", x.crowd(0, 2, MAX, n), INDEX);
                for (int person = 1; person < n && last >= 0; person++) {
                    x.strike(0);
                }
                due.is("none comes", x.count(0), 0);
            }
        }
        NodBench x = filled(0, 2, 7, 0, 240, 0, 0, 0);
        due.is("ahead of NOT", x.crowd(0, 2, 0, 2), INDEX);
    }

    private static void crowdNotAsTold(Due due) {
        Refusals.answer(due, NOT, "crowd");
        int[][] wrong = {{-1, 0, 0, 0}, {240, 0, 0, 0}, {5, -1, 0, 0}, {5, 6, 0, 0}, {5, 0, -1, 0}, {5, 0, 4, 0}, {5, 0, 0, 1},
            {5, 0, 0, -1}, {5, 1, 0, 3}, {5, 1, 0, -1}, {5, 2, 0, 1}, {5, 2, 0, 5}, {5, 3, 0, 0}, {5, 3, 0, 100}, {5, 4, 0, 6},
            {5, 4, 0, -1}, {5, 5, 0, 0}, {5, 5, 0, 100}, {MIN, 0, 0, 0}, {MAX, 0, 0, 0}, {5, MAX, 0, 0}, {5, 1, MIN, 0}};
        for (int[] row : wrong) {
            for (int which = 0; which < 3; which++) {
                NodBench x = filled(0, 2, 12, 4 * which, row);
                due.is("row " + which + " of three", x.crowd(0, 2, 0, 3), NOT);
                due.is("none comes", x.count(0), 0);
            }
        }
        NodBench x = twelve();
        x.sheet(0, 0, 8);
        x.item(0, 0, 3, 1);
        due.is("ahead of FULL", x.crowd(0, 0, 0, 2), NOT);
    }

    private static void crowdWithoutRoom(Due due) {
        Refusals.answer(due, FULL, "crowd");
        for (int n = 1; n <= 6; n++) {
            NodBench x = filled(0, 1, 24, 0);
            x.crowd(0, 1, 0, 6);
            for (int person = 6; person < 12 - n; person++) {
                x.person(0, 0, 0, 0);
            }
            x.person(0, 0, 0, 0);
            due.is("one has no room", x.crowd(0, 1, 0, n), FULL);
            due.is("none comes", x.count(0), 13 - n);
            x.strike(0);
            due.is("room for all", x.crowd(0, 1, 0, n), n);
            due.is("twelve", x.count(0), 12);
        }
    }

    private static void sheet(Due due) {
        NodBench x = new NodBench();
        for (int lane = 0; lane < 3; lane++) {
            due.is("n", x.sheet(0, lane, 24), 24);
            due.is("a row of that LANE", x.item(0, lane, 23, 1), 1);
            Due.fill(x, 0, lane, 0, 5, 1, 3, 2);
            due.is("n again", x.sheet(0, lane, 8), 8);
            due.is("the new one is shorter", x.item(0, lane, 8, 1), INDEX);
            due.is("and holds noughts", x.crowd(0, lane, 0, 2), 2);
            for (int i = 0; i < 8; i++) {
                due.is("nought", x.told(2 * lane + i / 4, i % 4), 0);
            }
        }
        due.is("a row of none", x.sheet(0, 1, 0), 0);
        due.is("it is there", x.item(0, 1, 0, 0), INDEX);
        due.is("it is a row", x.drop(0), 0);
    }

    private static void sheetTooLong(Due due) {
        Refusals.answer(due, BAD, "sheet");
        NodBench x = new NodBench();
        due.is("24", x.sheet(0, 0, 24), 24);
        due.is("25", x.sheet(0, 1, 25), BAD);
        due.is("far too long", x.sheet(0, 1, MAX), BAD);
        due.is("it stays", x.drop(0), 24);
        due.is("25, where nothing is", x.sheet(0, 1, 25), BAD);
        due.is("still nothing", x.drop(0), NULL);
    }

    private static void sheetBelowNone(Due due) {
        Refusals.answer(due, SIZE, "sheet");
        NodBench x = new NodBench();
        due.is("0", x.sheet(0, 0, 0), 0);
        due.is("-1", x.sheet(0, 1, -1), SIZE);
        due.is("far below", x.sheet(0, 1, MIN), SIZE);
        due.is("no such sheet", x.sheet(4, 1, -1), BAD);
        due.is("no such LANE", x.sheet(0, 3, -1), BAD);
        due.is("it stays", x.drop(0), 0);
        due.is("-1, where nothing is", x.sheet(0, 1, -1), SIZE);
        due.is("still nothing", x.drop(0), NULL);
    }

    private static void drop(Due due) {
        for (int n = 0; n <= 24; n++) {
            NodBench x = new NodBench();
            x.sheet(3, 1, n);
            x.sheet(2, 1, 5);
            due.is("it had", x.drop(3), n);
            due.is("nothing", x.drop(3), NULL);
            due.is("nothing of another LANE, too", x.item(3, 0, 0, 0), NULL);
            due.is("the other one stays", x.drop(2), 5);
            due.is("a new one", x.sheet(3, 0, 4), 4);
        }
    }

    private static void dropOfNothing(Due due) {
        Refusals.answer(due, NULL, "drop");
        for (int sheet = 0; sheet < 4; sheet++) {
            due.is("nothing at first", new NodBench().drop(sheet), NULL);
        }
    }

    private static void item(Due due) {
        // The first of each pair is kept as the second one by a LANE of bytes, then of shorts, then of ints.
        int[][] pairs = {{0, 0, 0, 0}, {127, 127, 127, 127}, {128, -128, 128, 128}, {255, -1, 255, 255}, {256, 0, 256, 256},
            {259, 3, 259, 259}, {-128, -128, -128, -128}, {-129, 127, -129, -129}, {-256, 0, -256, -256},
            {32767, -1, 32767, 32767}, {32768, 0, -32768, 32768}, {65535, -1, -1, 65535}, {65536, 0, 0, 65536},
            {65536 + 77, 77, 77, 65536 + 77}, {-65536 + 77, 77, 77, -65536 + 77}, {512 + 77, 77, 512 + 77, 512 + 77},
            {MAX, -1, -1, MAX}, {MIN, 0, 0, MIN}, {MIN + 99, 99, 99, MIN + 99}};
        for (int[] pair : pairs) {
            for (int lane = 0; lane < 3; lane++) {
                NodBench x = filled(0, lane, 4, 0, 150, 4, 0);
                due.is("1", x.item(0, lane, 0, pair[0]), 1);
                int kept = pair[1 + lane];
                boolean isMinute = kept >= 0 && kept < 240;
                due.is(pair[0] + " in LANE " + lane, x.crowd(0, lane, 0, 1), isMinute ? 1 : NOT);
                due.is(pair[0] + " in LANE " + lane, x.told(0, 0), isMinute ? kept : BAD);
            }
        }
        NodBench x = filled(0, 2, 24, 0, ROWS);
        for (int i = 0; i < 24; i++) {
            due.is("each its own", x.item(0, 2, i, ROWS[i]), 1);
        }
        due.is("all are as they were", x.crowd(0, 2, 0, 6), 6);
        due.is("the last", x.told(5, 0), 127);
    }

    private static void itemOfNothing(Due due) {
        Refusals.answer(due, NULL, "item");
        NodBench x = new NodBench();
        due.is("ahead of INDEX", x.item(0, 0, -1, 0), NULL);
        x.sheet(0, 0, 1);
        due.is("there is one", x.item(0, 0, 0, 0), 1);
        x.drop(0);
        due.is("there was one", x.item(0, 0, 0, 0), NULL);
    }

    private static void itemOfAnotherLane(Due due) {
        Refusals.answer(due, CAST, "item");
        for (int lane = 0; lane < 3; lane++) {
            NodBench x = filled(0, lane, 1, 0);
            for (int as = 0; as < 3; as++) {
                due.is(lane + " as " + as, x.item(0, as, 0, 0), as == lane ? 1 : CAST);
                due.is("ahead of INDEX", x.item(0, as, 1, 0), as == lane ? INDEX : CAST);
            }
        }
    }

    private static void noSuchItem(Due due) {
        Refusals.answer(due, INDEX, "item");
        for (int n = 0; n <= 24; n++) {
            NodBench x = filled(1, 1, n, 0);
            for (int wrong : new int[] {-1, n, n + 1, 24, MIN, MAX}) {
                due.is(wrong + " of " + n, x.item(1, 1, wrong, 0), INDEX);
            }
            due.is("the last of " + n, x.item(1, 1, n - 1, 0), n == 0 ? INDEX : 1);
        }
    }

    private static void waits(Due due) {
        int[] wait = {0, 0, 27, 240, 20, 128, 127, 4};
        int[] asByte = {0, 0, 27, -16, 20, -128, 127, 4};
        for (int lane = 0; lane < 3; lane++) {
            NodBench x = Due.with("0p3;0p3;3p0;0c0:2;4t0:20;112c0:2;113c0:2;236c0:2");
            x.sheet(2, lane, 24);
            due.is("how many", x.film(2, lane, 3), 8);
            while (x.count(0) > 0) {
                x.strike(0);
            }
            // From behind, for each is read as a MINUTE with three noughts behind it.
            for (int person = 7; person >= 0; person--) {
                int kept = lane == 0 ? asByte[person] : wait[person];
                boolean isMinute = kept >= 0 && kept < 240;
                Due.fill(x, 2, lane, 4 + person, 0, 0, 0);
                due.is("WAIT of " + person, x.crowd(2, lane, 3 + person, 1), isMinute ? 1 : NOT);
                due.is("WAIT of " + person, x.told(0, 0), isMinute ? kept : BAD);
                x.strike(0);
            }
            due.is("none ahead of them", x.crowd(2, lane, 0, 1), 1);
        }
        due.is("of nobody", filled(0, 0, 5, 0).film(0, 0, 0), 0);
        NodBench y = Due.with("3p0;0p3;0p3");
        y.sheet(0, 1, 4);
        y.film(0, 1, 0);
        due.is("27 of number 0, then noughts", y.crowd(0, 1, 0, 1), 1);
        due.is("27", y.told(3, 0), 27);
        NodBench x = twelve();
        x.sheet(0, 0, 12);
        due.is("of twelve", x.film(0, 0, 0), 12);
        x.sheet(0, 0, 24);
        due.is("up to the end", x.film(0, 0, 12), 12);
    }

    private static void filmOfNothing(Due due) {
        Refusals.answer(due, NULL, "film");
        NodBench x = new NodBench();
        due.is("nothing", x.film(0, 0, 0), NULL);
        due.is("ahead of INDEX", x.film(0, 0, -1), NULL);
    }

    private static void filmOfAnotherLane(Due due) {
        Refusals.answer(due, CAST, "film");
        for (int lane = 0; lane < 3; lane++) {
            NodBench x = filled(0, lane, 4, 0);
            for (int as = 0; as < 3; as++) {
                due.is(lane + " as " + as, x.film(0, as, 0), as == lane ? 0 : CAST);
                due.is("ahead of INDEX", x.film(0, as, 5), as == lane ? INDEX : CAST);
            }
        }
    }

    private static void filmTooFar(Due due) {
        Refusals.answer(due, INDEX, "film");
        for (int size = 0; size <= 24; size++) {
            for (int people = 0; people <= 12; people += 4) {
                NodBench x = filled(0, 1, size, 0);
                for (int i = 0; i < people; i++) {
                    x.person(0, 0, 0, 0);
                }
                int last = size - people;
                due.is(people + " below 0", x.film(0, 1, -1), INDEX);
                due.is(people + " far below 0", x.film(0, 1, MIN), INDEX);
                due.is(people + " up to the end of " + size, x.film(0, 1, last), last < 0 ? INDEX : people);
                due.is(people + " one too far", x.film(0, 1, last + 1), INDEX);
                due.is(people + " far too far", x.film(0, 1, MAX), INDEX);
            }
        }
        NodBench x = filled(0, 2, 8, 0, 9, 0, 0, 0);
        Due.people(x, "0p0;0p0;0p0;0p0;0p0;0p0");
        due.is("two do not fit", x.film(0, 2, 4), INDEX);
        x.crowd(0, 2, 0, 1);
        due.is("nothing came to it", x.told(6, 0), 9);
    }
}
