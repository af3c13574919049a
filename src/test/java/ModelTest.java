import java.util.Random;

/** Runs of calls by a fixed seed, each answer held against the Model's. */
final class ModelTest {
    private static final int RUNS = 400;
    /** So many that with all that one turn may need there are no more than 512. */
    private static final int CALLS = 390;

    private final Due due;
    private final int run;
    private final Random dice;
    private final NodBench x = new NodBench();
    private final Model y = new Model();
    private int calls;

    private ModelTest(Due due, int run) {
        this.due = due;
        this.run = run;
        this.dice = new Random(run);
    }

    public static void main(String[] args) {
        Due due = new Due();
        for (int run = 1; run <= RUNS; run++) {
            ModelTest test = new ModelTest(due, run);
            test.setTheScene();
            while (test.calls < CALLS) {
                test.call();
            }
            due.isTrue("run " + run + " has " + test.calls + " calls", test.calls <= 512);
        }
        due.close("ModelTest");
    }

    private int roll(int least, int most) {
        return least + dice.nextInt(most - least + 1);
    }

    /** Mostly from a range, now and then just beside it. */
    private int near(int least, int most) {
        return dice.nextInt(20) == 0 ? (dice.nextBoolean() ? least - 1 : most + 1) : roll(least, most);
    }

    private void same(String call, long got, long want) {
        calls++;
        due.is("run " + run + ": " + call, got, want);
    }

    private void setTheScene() {
        if (run % 3 == 0) {
            setting(0, 12);
            setting(1, roll(0, 4));
        }
        if (run % 4 == 1) {
            setting(5, roll(0, 6));
        }
        if (run % 5 == 2) {
            typeText(mannersText());
            same("manners", x.manners(), y.manners());
        }
        for (int i = roll(3, 12); i > 0; i--) {
            person();
        }
    }

    private void call() {
        int which = dice.nextInt(60);
        if (which < 20) {
            changeOrLook(which);
        } else if (which < 40) {
            lookAtDay(which);
        } else {
            tryWords(which);
        }
    }

    private void changeOrLook(int which) {
        int a = near(0, 11);
        int b = near(0, 5);
        switch (which) {
            case 0: setting(near(0, 7), -99); break;
            case 1: {
                int c = near(0, 2);
                int sort = near(0, 3);
                int v = near(1, 60);
                same("cut " + c + " " + sort + " " + v, x.cut(c, sort, v), y.cut(c, sort, v));
                break;
            }
            case 2: {
                int sort = near(0, 3);
                int v = near(0, 99);
                same("price " + sort + " " + v, x.price(sort, v), y.price(sort, v));
                break;
            }
            case 3:
            case 4:
            case 5: person(); break;
            case 6: same("told " + a + " " + b, x.told(a, b), y.told(a, b)); break;
            case 7: if (dice.nextInt(3) == 0) {
                same("strike " + a, x.strike(a), y.strike(a));
            }
                break;
            case 8: typeText(mannersText()); same("manners", x.manners(), y.manners()); break;
            case 9: same("before " + a + " " + b, x.before(a, b), y.before(a, b)); break;
            case 10: same("rounds", x.rounds(), y.rounds()); break;
            case 11: typeText(peopleText()); same("people", x.people(), y.people()); break;
            case 12: same("count " + b, x.count(b - 1), y.count(b - 1)); break;
            case 13: if (dice.nextInt(4) == 0) {
                same("image", x.image(), y.image());
            }
                break;
            case 14: if (dice.nextInt(4) == 0) {
                same("restore", x.restore(), y.restore());
            }
                break;
            case 15: sheet(); break;
            case 16: crowd(); break;
            case 17: item(); break;
            case 18: {
                int s = near(0, 3);
                int lane = near(0, 2);
                int from = roll(-1, 15);
                same("film " + s + " " + lane + " " + from, x.film(s, lane, from), y.film(s, lane, from));
                break;
            }
            default: {
                int s = near(0, 3);
                same("drop " + s, x.drop(s), y.drop(s));
            }
        }
    }

    private void lookAtDay(int which) {
        int a = near(0, 11);
        int b = near(0, 8);
        int m = near(0, 239);
        int c = near(0, 2);
        switch (which - 20) {
            case 0:
            case 1:
            case 2:
            case 3:
            case 4: {
                int what = near(0, 3);
                same("fate " + a + " " + what, x.fate(a, what), y.fate(a, what));
                break;
            }
            case 5:
            case 6:
            case 7: {
                int what = near(0, 4);
                same("at " + m + " " + what, x.at(m, what), y.at(m, what));
                break;
            }
            case 8:
            case 9:
            case 10: same("day " + b, x.day(b), y.day(b)); break;
            case 11:
            case 12: more(); break;
            case 13: same("tell " + c, x.tell(c), y.tell(c)); break;
            case 14: same("choosers", x.choosers(), y.choosers()); break;
            case 15: {
                int fee = dice.nextInt(4) == 0 ? near(0, 99) : near(0, 6);
                same("third " + fee + " " + c, x.third(fee, c), y.third(fee, c));
                break;
            }
            case 16: {
                int when = near(1, 239);
                same("last " + when, x.last(when), y.last(when));
                break;
            }
            case 17: same("worth " + c, x.worth(c), y.worth(c)); break;
            case 18: {
                int what = near(0, 2);
                same("rule " + c + " " + what, x.rule(c, what), y.rule(c, what));
                break;
            }
            default: same("best", x.best(), y.best());
        }
    }

    private void tryWords(int which) {
        if (which < 52) {
            int a = near(0, 11);
            int b = near(0, 11);
            same("word " + a + " " + b, x.word(a, b), y.word(a, b));
        } else if (which < 54) {
            same("drops", x.drops(), y.drops());
        } else if (which < 56) {
            same("first", x.first(), y.first());
        } else if (which < 58) {
            int set = dice.nextInt(1 << Math.max(1, y.s.people.size())) & dice.nextInt(8192);
            same("orders " + set, x.orders(set), y.orders(set));
        } else if (dice.nextInt(6) == 0) {
            same("hush", x.hush(), y.hush());
        }
    }

    private void setting(int what, int to) {
        int[][] range = {{1, 12}, {0, 40}, {0, 239}, {0, 10}, {0, 20}, {0, 13}, {0, 1}, {0, 2}};
        int v = to;
        if (to == -99) {
            v = what < 0 || what > 7 ? 1 : near(range[what][0], range[what][1]);
        }
        same("set " + what + " " + v, x.set(what, v), y.set(what, v));
    }

    private int numberFor(int kind, int minute) {
        switch (kind) {
            case 0: return near(0, 0);
            case 1: return near(0, 2);
            case 2: return near(2, 4);
            case 4: return near(0, Math.max(0, minute));
            default: return dice.nextInt(3) == 0 ? near(1, 99) : near(1, 20);
        }
    }

    private int minute() {
        int busy = 60 * (run % 4) + 20;
        return dice.nextInt(3) == 0 ? near(0, 239) : near(0, Math.min(busy, 239));
    }

    private void person() {
        int minute = minute();
        int kind = near(0, 5);
        int sort = near(0, 3);
        int number = numberFor(kind, minute);
        same("person " + minute + " " + kind + " " + sort + " " + number, x.person(minute, kind, sort, number),
            y.person(minute, kind, sort, number));
    }

    private void more() {
        int minute = minute();
        int kind = near(0, 5);
        int sort = near(0, 3);
        int number = numberFor(kind, minute);
        int what = near(0, 1);
        same("more " + minute + " " + kind + " " + sort + " " + number + " " + what,
            x.more(minute, kind, sort, number, what), y.more(minute, kind, sort, number, what));
    }

    private String mannersText() {
        StringBuilder text = new StringBuilder();
        int pairs = roll(1, dice.nextInt(4) == 0 ? 9 : 7);
        for (int i = 0; i < pairs; i++) {
            int a = roll(0, 5);
            text.append(i == 0 ? "" : ",").append("pcgolt".charAt(a)).append("pcgolt".charAt((a + roll(1, 5)) % 6));
        }
        return spoiled(text);
    }

    private String peopleText() {
        StringBuilder text = new StringBuilder();
        int rows = roll(1, dice.nextInt(4) == 0 ? 9 : 3);
        for (int i = 0; i < rows; i++) {
            int minute = Math.max(0, minute());
            int kind = roll(0, 5);
            text.append(i == 0 ? "" : ";").append("00".substring(roll(0, 2))).append(minute);
            text.append("pcgolt".charAt(kind)).append(roll(0, 3));
            if (kind != 0) {
                text.append(':').append(Math.max(0, numberFor(kind, minute)));
            }
        }
        return spoiled(text);
    }

    /** With blanks here and there, and at times with a wrong byte, or cut off. */
    private String spoiled(StringBuilder text) {
        for (int blanks = roll(0, 2); blanks > 0; blanks--) {
            text.insert(roll(0, text.length()), ' ');
        }
        if (dice.nextInt(4) == 0) {
            text.setCharAt(roll(0, text.length() - 1), "0379pcgolt;:,x ~".charAt(roll(0, 15)));
        }
        if (dice.nextInt(8) == 0) {
            text.setLength(roll(0, text.length()));
        }
        return text.toString();
    }

    private void typeText(String text) {
        for (int from = 0; from < text.length();) {
            int n = Math.min(roll(1, 8), text.length() - from);
            long w = dice.nextLong() << 8 * n;
            w = (n == 8 ? 0 : w) | Due.packed(text.substring(from, from + n));
            same("type " + w + " " + n, x.type(w, n), y.type(w, n));
            from += n;
        }
    }

    private void sheet() {
        int s = near(0, 3);
        int lane = near(0, 2);
        int n = dice.nextInt(3) == 0 ? near(0, 24) : 24;
        same("sheet " + s + " " + lane + " " + n, x.sheet(s, lane, n), y.sheet(s, lane, n));
    }

    private void item() {
        int s = near(0, 3);
        int lane = near(0, 2);
        int i = near(0, 23);
        int v = dice.nextInt(2) == 0 ? dice.nextInt() : roll(-300, 300);
        same("item " + s + " " + lane + " " + i + " " + v, x.item(s, lane, i, v), y.item(s, lane, i, v));
    }

    private void crowd() {
        int s = near(0, 3);
        int lane = near(0, 2);
        int from = roll(-1, 12);
        int n = near(1, 6);
        if (dice.nextInt(3) > 0 && s >= 0 && s < 4) {
            fillSheet(s, lane, Math.max(0, from), n);
        }
        same("crowd " + s + " " + lane + " " + from + " " + n, x.crowd(s, lane, from, n), y.crowd(s, lane, from, n));
    }

    private void fillSheet(int s, int lane, int from, int n) {
        for (int r = 0; r < n; r++) {
            int minute = lane == 0 ? near(0, 127) : near(0, 239);
            int kind = roll(0, 5);
            int[] row = {minute, kind, roll(0, 3), numberFor(kind, minute)};
            for (int i = 0; i < 4; i++) {
                int at = from + 4 * r + i;
                same("item " + s + " " + lane + " " + at + " " + row[i], x.item(s, lane, at, row[i]),
                    y.item(s, lane, at, row[i]));
            }
        }
    }
}
