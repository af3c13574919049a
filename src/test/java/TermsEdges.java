/** The Terms' first part: refusals, numbers, the shop, PEOPLE, MANNERS. */
final class TermsEdges {
    private static final int BAD = NodBench.BAD, NOT = NodBench.NOT, FULL = NodBench.FULL, NONE = NodBench.NONE;
    private static final int NULL = NodBench.NULL, CAST = NodBench.CAST, INDEX = NodBench.INDEX, SIZE = NodBench.SIZE;
    private static final int MIN = Integer.MIN_VALUE, MAX = Integer.MAX_VALUE;
    private static final int TURNED = 1, GONE = 2, CUT = 3, VAIN = 4;
    /** Twelve who come in MINUTE 0: two are taken at once. */
    private static final String[] CROWD = {"0p0;0p0;0p0;0p0;0p0;0p0", "0p0;0p0;0p0;0p0;0p0;0p0"};

    private TermsEdges() {
    }

    static void tell(Edges edges) {
        edges.section("Terms");
        refusals(edges);
        edges.heading("==== 1 ");
        edges.says("MINUTES are 0 .. 239.", TermsEdges::minutes);
        edges.says("SORTS of a cut are 0 .. 3.", TermsEdges::sorts);
        edges.says("CUTTERS 0, 1, 2 need 1 .. 60 MINUTES for each SORT", TermsEdges::needs);
        edges.says("(CUTTER 0: 10, 15, 20, 30 at first, 1: 12, 18, 24, 36, 2: 20, 30, 40, 60);", TermsEdges::needsAtFirst);
        edges.says("a SORT has a PRICE (0 .. 99; 10, 15, 20, 30 at first).", TermsEdges::prices);
        settings(edges);
        people(edges);
        edges.says("MANNERS are pairs of KINDS, 8 at most:", TermsEdges::eightManners);
        edges.says("the first goes before the second.", TermsEdges::theFirstGoesBefore);
    }

    private static void refusals(Edges edges) {
        edges.says("Refusals are answers, of several the first that a call names:", TermsEdges::firstNamed);
        edges.says("BAD -1 (a number is not as told, or names nothing),", TermsEdges::bad);
        edges.says("NOT -2 (as told),", TermsEdges::not);
        edges.says("FULL -3,", TermsEdges::full);
        edges.says("NONE -4 (as told),", TermsEdges::none);
        edges.says("CAST -12 (of SHEETS another LANE);", TermsEdges::cast);
        edges.says("what the machine finds: NULL -11, INDEX -13, SIZE -14", TermsEdges::found);
        edges.says("(NULL, CAST, INDEX, SIZE in this order, behind BAD).", TermsEdges::orderOfFinds);
        edges.says("Where a told thing may be below 0, refused ones are 100000 less (-100001 and so on).", TermsEdges::farBelow);
        edges.says("What is refused changes nothing, but as told.", Refusals::changeNothing);
        edges.says("Sets are bits.", TermsEdges::sets);
        edges.says("Divisions are cut.", TermsEdges::divisions);
    }

    private static void settings(Edges edges) {
        edges.heading("SETTINGS: ");
        edges.says("0 SEATS (1 .. 12; 7 at first),", TermsEdges::seats);
        edges.says("1 GUESS (0 .. 40; 10),", TermsEdges::guess);
        edges.says("2 PATIENCE (0 .. 239; 60),", TermsEdges::patience);
        edges.says("3 REST (0 .. 10; 0),", TermsEdges::rest);
        edges.says("4 TALK (0 .. 20; 5),", TermsEdges::talk);
        edges.says("5 THIRD (0 .. 13; 13),", TermsEdges::third);
        edges.says("6 KEEPS (0, 1; 1),", TermsEdges::keeps);
        edges.says("7 RULE (0 .. 2; 1).", TermsEdges::rule);
    }

    private static void people(Edges edges) {
        edges.says("PEOPLE 0 .. 11, as they are told,", TermsEdges::numbersOfPeople);
        edges.says("COME at a MINUTE (of like ones the lesser number first),", TermsEdges::come);
        edges.says("want a SORT,", TermsEdges::wantASort);
        edges.says("are of KINDS with a number: 0 PLAIN (0);", d -> number(d, 0, 150, 0, 0));
        edges.says("below it 1 CHOOSING (a CUTTER: 0 .. 2),", d -> number(d, 1, 150, 0, 2));
        edges.says("2 GROUPED (how many: 2 .. 4),", d -> number(d, 2, 150, 2, 4));
        edges.says("3 OUT (for how long: 1 .. 99),", d -> number(d, 3, 150, 1, 99));
        edges.says("4 LISTED (the MINUTE at which it called: 0 .. when it comes),", TermsEdges::listed);
        edges.says("5 TIRED (1 .. 99).", d -> number(d, 5, 150, 1, 99));
        edges.says("GROUPED ones are as many as told, all others one.", TermsEdges::heads);
    }

    // ---- refusals

    private static void firstNamed(Due due) {
        NodBench x = Refusals.scene();
        due.is("person BAD, FULL", x.person(240, 0, 0, 0), BAD);
        due.is("more BAD, FULL", x.more(0, 0, 0, 0, 2), BAD);
        due.is("word BAD, FULL", x.word(3, 3), BAD);
        due.is("type BAD, FULL", x.type(0x2020, 9), BAD);
        due.is("type BAD, FULL", x.type(0x201F, 2), BAD);
        due.is("sheet BAD, SIZE", x.sheet(4, 0, -1), BAD);
        due.is("sheet BAD, SIZE", x.sheet(0, 3, -1), BAD);
        due.is("crowd BAD, NULL", x.crowd(3, 0, 0, 7), BAD);
        due.is("crowd BAD, CAST", x.crowd(0, 1, 0, 0), BAD);
        due.is("crowd NULL, INDEX", x.crowd(3, 0, -1, 1), NULL);
        due.is("crowd CAST, INDEX", x.crowd(0, 1, 21, 1), CAST);
        due.is("crowd CAST, NOT, FULL", x.crowd(1, 0, 0, 1), CAST);
        due.is("crowd INDEX, FULL", x.crowd(0, 0, 21, 1), INDEX);
        due.is("crowd INDEX, NOT", x.crowd(1, 1, 0, 2), INDEX);
        due.is("crowd NOT, FULL", x.crowd(1, 1, 0, 1), NOT);
        due.is("item BAD, NULL", x.item(3, 3, 0, 0), BAD);
        due.is("item NULL, INDEX", x.item(3, 0, -1, 0), NULL);
        due.is("item CAST, INDEX", x.item(0, 1, 24, 0), CAST);
        due.is("film BAD, NULL", x.film(3, -1, 0), BAD);
        due.is("film NULL, INDEX", x.film(3, 0, -1), NULL);
        due.is("film CAST, INDEX", x.film(0, 2, 13), CAST);
        x.people();
        due.is("people FAULT, FULL", Due.people(x, "1p0;x"), -24);
        due.is("tell BAD, NONE", new NodBench().tell(2), BAD);
    }

    private static void bad(Due due) {
        NodBench x = new NodBench();
        due.is("BAD", NodBench.BAD, -1);
        due.is("a number is not as told", x.set(0, 0), -1);
        due.is("a number is not as told", x.person(0, 0, 0, 1), -1);
        due.is("names nothing", x.told(0, 0), -1);
        due.is("names nothing", x.strike(0), -1);
        due.is("names nothing", x.drop(4), -1);
    }

    private static void not(Due due) {
        NodBench x = Refusals.scene();
        due.is("NOT", NodBench.NOT, -2);
        due.is("as told", x.crowd(1, 1, 0, 1), -2);
    }

    private static void full(Due due) {
        NodBench x = Refusals.scene();
        due.is("FULL", NodBench.FULL, -3);
        due.is("PEOPLE", x.person(0, 0, 0, 0), -3);
        due.is("WORDS", x.word(0, 1), -3);
        due.is("THE TAPE", x.type(0x2020, 2), -3);
    }

    private static void none(Due due) {
        NodBench x = new NodBench();
        due.is("NONE", NodBench.NONE, -4);
        due.is("no IMAGE", x.restore(), -4);
        due.is("no TELL", x.tell(0), -4);
        due.is("nobody is cut", x.at(0, 2), -4);
        Due.people(x, "0c0:2");
        due.is("no begin", x.fate(0, 2), -4);
        due.is("no cutter", x.fate(0, 3), -4);
    }

    private static void cast(Due due) {
        due.is("CAST", NodBench.CAST, -12);
        NodBench x = new NodBench();
        for (int lane = 0; lane < 3; lane++) {
            x.sheet(0, lane, 4);
            for (int as = 0; as < 3; as++) {
                String what = lane + " taken as " + as;
                due.is("item " + what, x.item(0, as, 0, 0), as == lane ? 1 : -12);
                due.is("film " + what, x.film(0, as, 0), as == lane ? x.count(0) : -12);
                due.is("crowd " + what, x.crowd(0, as, 0, 1), as == lane ? 1 : -12);
            }
        }
    }

    private static void found(Due due) {
        NodBench x = new NodBench();
        due.is("NULL", NodBench.NULL, -11);
        due.is("INDEX", NodBench.INDEX, -13);
        due.is("SIZE", NodBench.SIZE, -14);
        due.is("nothing there", x.drop(0), -11);
        due.is("a row below none", x.sheet(0, 0, -1), -14);
        x.sheet(0, 0, 1);
        due.is("no such item", x.item(0, 0, 1, 0), -13);
    }

    private static void orderOfFinds(Due due) {
        NodBench x = new NodBench();
        due.is("BAD, NULL, INDEX", x.item(0, 3, -1, 0), BAD);
        due.is("NULL, INDEX", x.item(0, 0, -1, 0), NULL);
        due.is("BAD, SIZE", x.sheet(-1, 0, -1), BAD);
        x.sheet(0, 1, 2);
        due.is("BAD, CAST, INDEX", x.item(0, -1, 2, 0), BAD);
        due.is("CAST, INDEX", x.item(0, 0, 2, 0), CAST);
        due.is("INDEX", x.item(0, 1, 2, 0), INDEX);
        due.is("CAST, INDEX of a crowd", x.crowd(0, 0, 0, 1), CAST);
        due.is("CAST, INDEX of a film", x.film(0, 0, 3), CAST);
        due.is("BAD, CAST, INDEX of a film", x.film(4, 0, 3), BAD);
        due.is("SIZE", x.sheet(0, 1, -1), SIZE);
    }

    private static void farBelow(Due due) {
        // 2 takes number 2, so that four find room, cost three theirs, and pay less than these would.
        NodBench x = Due.with("0p3;1p3;2p0;3g0:4;4p3;4p3;4p3");
        x.set(0, 4);
        x.set(5, 1);
        due.is("COIN with 2", x.day(0), 30 + 30 + 10 + 40);
        due.is("a WORTH below 0", x.worth(2), 30 + 30 + 10 + 40 - (30 + 30 + 10 + 90));
        due.is("none below", x.worth(-1), -100001);
        due.is("none above", x.worth(3), -100001);
        due.is("none far below", x.worth(MIN), -100001);
        due.is("none far above", x.worth(MAX), -100001);
    }

    private static void sets(Due due) {
        NodBench x = Due.with("0p0;0p0;0p0;0p0");
        Due.manners(x, "pc,cp,lt,tl");
        due.is("KINDS 0, 1, 4, 5", x.rounds(), 1 + 2 + 16 + 32);
        due.is("RULES 0, 1, 2", x.best(), 1 + 2 + 4);
        x.word(0, 1);
        x.word(2, 3);
        x.word(3, 2);
        due.is("WORD 1", x.drops(), 2);
        due.is("PEOPLE 0, 3", x.first(), 1 + 8);
        due.is("PEOPLE 1, 2, 3", x.orders(2 + 4 + 8), 3);
    }

    private static void divisions(Due due) {
        NodBench x = Due.with("0p0;0p0");
        x.set(1, 1);
        x.set(2, 0);
        due.is("1 by 2 is 0, not more than 0", x.day(3), 0);
        x.set(1, 3);
        x.set(2, 1);
        due.is("3 by 2 is 1, not more than 1", x.day(3), 0);
        x.set(2, 0);
        due.is("3 by 2 is 1, more than 0", x.day(3), 1);
    }

    // ---- the shop

    private static void minutes(Due due) {
        int[][] edges = {{-1, 0}, {0, 1}, {239, 1}, {240, 0}, {MIN, 0}, {MAX, 0}};
        for (int[] edge : edges) {
            NodBench x = new NodBench();
            boolean isOne = edge[1] == 1;
            due.is("at " + edge[0], x.at(edge[0], 0), isOne ? 0 : BAD);
            due.is("more " + edge[0], x.more(edge[0], 0, 0, 0, 1), isOne ? CUT : BAD);
            due.is("person " + edge[0], x.person(edge[0], 0, 0, 0), isOne ? 0 : BAD);
            due.is("crowd " + edge[0], crowd(edge[0], 0, 0, 0), isOne ? 1 : NOT);
        }
        due.is("0p0", Due.people(new NodBench(), "0p0"), 1);
        due.is("239p0", Due.people(new NodBench(), "239p0"), 1);
        due.is("240p0", Due.people(new NodBench(), "240p0"), -20);
        NodBench x = Due.with("239p0", "0p0");
        due.fate("the last", x, 0, CUT, 0, 239, 0);
        due.fate("the first", x, 1, CUT, 0, 0, 0);
    }

    private static int crowd(int... row) {
        NodBench x = new NodBench();
        x.sheet(0, 2, 4);
        Due.fill(x, 0, 2, 0, row);
        return x.crowd(0, 2, 0, 1);
    }

    private static void sorts(Due due) {
        int[][] edges = {{-1, 0}, {0, 1}, {3, 1}, {4, 0}, {MIN, 0}, {MAX, 0}};
        for (int[] edge : edges) {
            NodBench x = new NodBench();
            int sort = edge[0];
            boolean isOne = edge[1] == 1;
            due.is("person " + sort, x.person(0, 0, sort, 0), isOne ? 0 : BAD);
            due.is("more " + sort, x.more(0, 0, sort, 0, 1), isOne ? CUT : BAD);
            int first = sort == 0 ? 10 : 30;
            due.is("cut " + sort, x.cut(0, sort, 10), isOne ? first : BAD);
            due.is("price " + sort, x.price(sort, 10), isOne ? first : BAD);
            due.is("crowd " + sort, crowd(0, 0, sort, 0), isOne ? 1 : NOT);
        }
        due.is("0p0", Due.people(new NodBench(), "0p0"), 1);
        due.is("0p3", Due.people(new NodBench(), "0p3"), 1);
        due.is("0p4", Due.people(new NodBench(), "0p4"), -22);
        due.is("0p9", Due.people(new NodBench(), "0p9"), -22);
        due.is("0p/", Due.people(new NodBench(), "0p/"), -22);
    }

    private static void needs(Due due) {
        NodBench x = new NodBench();
        for (int wrong : new int[] {-1, 3, MIN, MAX}) {
            due.is("no CUTTER " + wrong, x.cut(wrong, 0, 10), BAD);
        }
        x.set(5, 1);
        Due.people(x, "0c0:0;0c1:1;0c2:2");
        x.set(4, 0);
        for (int cutter = 0; cutter < 3; cutter++) {
            for (int wrong : new int[] {0, 61, -1, MIN, MAX}) {
                due.is("need of " + wrong, x.cut(cutter, cutter, wrong), BAD);
            }
            x.cut(cutter, cutter, 1);
            due.is("one MINUTE", x.at(0, 2 + cutter), cutter);
            due.is("one MINUTE is over", x.at(1, 2 + cutter), NONE);
            due.is("it was one", x.cut(cutter, cutter, 60), 1);
            due.is("sixty", x.at(59, 2 + cutter), cutter);
            due.is("sixty are over", x.at(60, 2 + cutter), NONE);
            due.is("it was sixty", x.cut(cutter, cutter, 60), 60);
        }
    }

    private static void needsAtFirst(Due due) {
        int[][] first = {{10, 15, 20, 30}, {12, 18, 24, 36}, {20, 30, 40, 60}};
        for (int cutter = 0; cutter < 3; cutter++) {
            for (int sort = 0; sort < 4; sort++) {
                NodBench x = new NodBench();
                x.set(5, 1);
                x.set(4, 0);
                x.person(7, 1, sort, cutter);
                String what = "CUTTER " + cutter + " SORT " + sort;
                due.is(what, x.at(6 + first[cutter][sort], 2 + cutter), 0);
                due.is(what + " is over", x.at(7 + first[cutter][sort], 2 + cutter), NONE);
                due.is(what + " told", x.cut(cutter, sort, 1), first[cutter][sort]);
            }
        }
    }

    private static void prices(Due due) {
        int[] first = {10, 15, 20, 30};
        for (int sort = 0; sort < 4; sort++) {
            NodBench x = new NodBench();
            x.person(0, 0, sort, 0);
            due.is("COIN at first", x.day(0), first[sort]);
            for (int wrong : new int[] {-1, 100, MIN, MAX}) {
                due.is("PRICE " + wrong, x.price(sort, wrong), BAD);
            }
            due.is("at first", x.price(sort, 99), first[sort]);
            due.is("COIN of 99", x.day(0), 99);
            due.is("was 99", x.price(sort, 0), 99);
            due.is("COIN of 0", x.day(0), 0);
            due.is("was 0", x.price(sort, 0), 0);
        }
    }

    /** A SETTING takes what is from least to most, and nothing else. */
    private static void takes(Due due, int what, int least, int most, int first) {
        NodBench x = new NodBench();
        for (int wrong : new int[] {least - 1, most + 1, MIN, MAX}) {
            due.is("wrong: " + wrong, x.set(what, wrong), BAD);
        }
        int was = first;
        for (int v = least; v <= most; v++) {
            due.is("to " + v, x.set(what, v), was);
            was = v;
        }
    }

    private static void seats(Due due) {
        takes(due, 0, 1, 12, 7);
        NodBench x = Due.with(CROWD);
        due.is("7 at first", x.day(3), 5);
        x.set(0, 1);
        due.is("one", x.day(3), 11);
        x.set(0, 11);
        due.is("eleven", x.day(3), 1);
        x.set(0, 12);
        due.is("twelve", x.day(3), 0);
    }

    private static void guess(Due due) {
        takes(due, 1, 0, 40, 10);
        NodBench x = Due.with(CROWD);
        x.set(0, 12);
        x.set(2, 54);
        due.is("10 at first: 11 that wait are 55", x.day(3), 1);
        x.set(2, 0);
        x.set(1, 0);
        due.is("0: nobody is TURNED", x.day(3), 0);
        x.set(1, 40);
        x.set(2, 19);
        due.is("40: one that waits is 20", x.day(3), 11);
    }

    private static void patience(Due due) {
        takes(due, 2, 0, 239, 60);
        NodBench x = Due.with(CROWD);
        x.set(0, 12);
        x.set(1, 11);
        due.is("60 at first: 11 that wait are 60", x.day(3), 0);
        x.set(1, 12);
        due.is("60 at first: 11 that wait are 66", x.day(3), 1);
        x.set(2, 0);
        x.set(1, 2);
        due.is("0: nobody may wait ahead", x.day(3), 11);
        x.set(2, 239);
        x.set(1, 40);
        due.is("239: 11 that wait are 220", x.day(3), 0);
    }

    private static void rest(Due due) {
        takes(due, 3, 0, 10, 0);
        NodBench x = Due.with("0p0;0p3;0p0");
        due.is("0 at first", x.fate(2, 2), 10);
        x.set(3, 10);
        due.is("10", x.fate(2, 2), 20);
    }

    private static void talk(Due due) {
        takes(due, 4, 0, 20, 5);
        NodBench x = Due.with("0c0:0;0c0:0");
        due.is("5 at first", x.fate(1, 2), 15);
        x.set(4, 0);
        due.is("0", x.fate(1, 2), 10);
        x.set(4, 20);
        due.is("20", x.fate(1, 2), 30);
    }

    private static void third(Due due) {
        takes(due, 5, 0, 13, 13);
        NodBench x = Due.with("0c0:2;0c0:2;0c0:2;0c0:2;0c0:2;0c0:2", "0c0:2;0c0:2;0c0:2;0c0:2;0c0:2;0c0:2");
        x.set(0, 12);
        due.is("13 at first: never", x.day(5), 0);
        x.set(5, 12);
        due.is("12 that wait are enough", x.day(5), 1);
        x.set(5, 0);
        due.is("0: always", x.day(5), 10);
    }

    private static void keeps(Due due) {
        takes(due, 6, 0, 1, 1);
        NodBench x = Due.with("0p3;0p3;2o0:10;10p0");
        due.is("1 at first: PLACE is kept", x.fate(2, 2), 30);
        x.set(6, 0);
        due.is("0: it is not", x.fate(2, 2), 36);
        x.set(6, 1);
        due.is("1: it is", x.fate(2, 2), 30);
    }

    private static void rule(Due due) {
        takes(due, 7, 0, 2, 1);
        NodBench x = Due.with("0p3;0p3;1p3;2t3:99;3p0");
        Due.manners(x, "tp");
        due.is("1 at first: by MANNERS", x.fate(3, 2), 30);
        x.set(7, 0);
        due.is("0: by PLACE", x.fate(2, 2), 30);
        x.set(7, 2);
        due.is("2: whose CUT is shorter", x.fate(4, 2), 30);
    }

    // ---- PEOPLE

    private static void numbersOfPeople(Due due) {
        NodBench x = new NodBench();
        for (int i = 0; i < 12; i++) {
            due.is("not told yet", x.told(i, 0), BAD);
            due.is("as they are told", x.person(20 * (11 - i), 0, 0, 0), i);
        }
        due.is("a thirteenth", x.person(0, 0, 0, 0), FULL);
        for (int i = 0; i < 12; i++) {
            due.is("their numbers", x.told(i, 0), 20 * (11 - i));
        }
        for (int wrong : new int[] {-1, 12, MIN, MAX}) {
            due.is("no number " + wrong, x.told(wrong, 0), BAD);
        }
    }

    private static void come(Due due) {
        NodBench x = Due.with("6p0;5p0;5p0");
        x.set(0, 1);
        due.fate("the lesser of like ones", x, 1, CUT, 0, 5, 0);
        due.fate("the other one", x, 2, TURNED, 0, NONE, NONE);
        due.fate("who comes a MINUTE later", x, 0, CUT, 0, 6, 1);
    }

    private static void wantASort(Due due) {
        int[] needs = {10, 15, 20, 30};
        for (int sort = 0; sort < 4; sort++) {
            NodBench x = new NodBench();
            x.person(0, 0, sort, 0);
            due.is("SORT " + sort, x.told(0, 2), sort);
            due.is("its CUT", x.at(needs[sort] - 1, 2), 0);
            due.is("is over", x.at(needs[sort], 2), NONE);
        }
    }

    /** A KIND's number is from least to most, however it is told. */
    private static void number(Due due, int kind, int minute, int least, int most) {
        for (int wrong : new int[] {least - 1, most + 1, MIN, MAX}) {
            NodBench x = new NodBench();
            due.is("person with " + wrong, x.person(minute, kind, 0, wrong), BAD);
            due.is("more with " + wrong, x.more(minute, kind, 0, wrong, 1), BAD);
            due.is("crowd with " + wrong, crowd(minute, kind, 0, wrong), NOT);
        }
        for (int v = least; v <= most; v++) {
            NodBench x = new NodBench();
            due.isTrue("more with " + v, x.more(minute, kind, 0, v, 1) > 0);
            due.is("person with " + v, x.person(minute, kind, 0, v), 0);
            due.is("told", x.told(0, 3), v);
            due.is("crowd with " + v, crowd(minute, kind, 0, v), 1);
        }
        String text = minute + "" + "pcgolt".charAt(kind) + "0:";
        int place = kind == 0 ? text.length() - 1 : text.length();
        due.is("text with one more", Due.people(new NodBench(), text + (most + 1)), -20 - place);
        due.is("text with the most", Due.people(new NodBench(), text + most), kind == 0 ? -20 - place : 1);
        due.is("text with the least", Due.people(new NodBench(), text + least), kind == 0 ? -20 - place : 1);
        if (least > 0) {
            due.is("text with one less", Due.people(new NodBench(), text + (least - 1)), -20 - place);
        }
    }

    private static void listed(Due due) {
        number(due, 4, 0, 0, 0);
        number(due, 4, 1, 0, 1);
        number(due, 4, 150, 0, 150);
        number(due, 4, 239, 0, 239);
    }

    private static void heads(Due due) {
        for (int many = 2; many <= 4; many++) {
            NodBench x = Due.with("0p3;0p3");
            x.person(1, 2, 0, many);
            due.is("sit " + many, x.at(1, 1), many);
            due.is("pay " + many, x.day(0), 60 + 10 * many);
            due.is("cut", x.at(29 + 10 * many, 2), 2);
            due.is("cut is over", x.at(30 + 10 * many, 2), NONE);
        }
        int[] numbers = {0, 0, 0, 9, 0, 70};
        for (int kind = 0; kind < 6; kind++) {
            if (kind != 2) {
                NodBench x = Due.with("0p3;0p3");
                x.set(4, 0);
                x.person(1, kind, 0, numbers[kind]);
                due.is("one of KIND " + kind + " sits", x.at(1, 1), 1);
                due.is("pays", x.day(0), 60 + 10);
                due.is("is cut", x.at(39, 2), 2);
                due.is("cut is over", x.at(40, 2), NONE);
            }
        }
    }

    // ---- MANNERS

    private static void eightManners(Due due) {
        NodBench x = new NodBench();
        due.is("one", Due.manners(x, "pc"), 1);
        due.is("eight", Due.manners(x, "pc,go,ol,lt,tp,pg,co,gl"), 8);
        due.is("eight", x.count(1), 8);
        due.is("nine", Due.manners(x, "pc,go,ol,lt,tp,pg,co,gl,cl"), -43);
        due.is("still eight", x.count(1), 8);
    }

    private static void theFirstGoesBefore(Due due) {
        NodBench x = Due.with("0p3;0p3;1p0;2t0:99");
        Due.manners(x, "tp");
        due.is("t before p", x.before(5, 0), 1);
        due.is("not p before t", x.before(0, 5), 0);
        due.fate("t goes before p", x, 3, CUT, 28, 30, 0);
        Due.manners(x, "pt");
        due.fate("p goes before t", x, 2, CUT, 29, 30, 0);
    }
}
