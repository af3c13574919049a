import java.util.ArrayList;
import java.util.List;

/** The document in its slowest words: what NodBench is held against. It shares no code with it. */
final class Model {
    static final int BAD = -1, NOT = -2, FULL = -3, NONE = -4, NULL = -11, CAST = -12, INDEX = -13, SIZE = -14;

    /** What an IMAGE keeps. */
    static final class State {
        int[] settings = {7, 10, 60, 0, 5, 13, 1, 1};
        int[][] needs = {{10, 15, 20, 30}, {12, 18, 24, 36}, {20, 30, 40, 60}};
        int[] prices = {10, 15, 20, 30};
        List<int[]> people = new ArrayList<>();
        List<int[]> manners = new ArrayList<>();
        List<int[]> words = new ArrayList<>();

        State copy() {
            State s = new State();
            s.settings = settings.clone();
            for (int i = 0; i < 3; i++) {
                s.needs[i] = needs[i].clone();
            }
            s.prices = prices.clone();
            copyRows(people, s.people);
            copyRows(manners, s.manners);
            copyRows(words, s.words);
            return s;
        }

        private static void copyRows(List<int[]> from, List<int[]> to) {
            for (int[] row : from) {
                to.add(row.clone());
            }
        }
    }

    /** A day, played with each cutter's clock ticking. */
    static final class Played {
        final State s;
        final int n;
        final int[] fate, wait, began, by, place;
        final boolean[] waits, out;
        final int[][] chair = new int[3][240];
        final int[] waitingAt = new int[240], sittingAt = new int[240];
        int coin, quarrels, thirdMinutes, longestEnd;

        Played(State s, int without, int shut) {
            this.s = s;
            n = s.people.size();
            fate = new int[n];
            wait = new int[n];
            began = new int[n];
            by = new int[n];
            place = new int[n];
            waits = new boolean[n];
            out = new boolean[n];
            for (int p = 0; p < n; p++) {
                began[p] = NONE;
                by[p] = NONE;
            }
            int[] who = {-1, -1, -1};
            int[] cutLeft = new int[3];
            int[] restLeft = new int[3];
            for (int m = 0; m < 240; m++) {
                tick(who, cutLeft, restLeft);
                arrivals(m, shut);
                moves(m);
                for (int c = 0; c < 3; c++) {
                    if (c == without || who[c] >= 0 || restLeft[c] > 0 || c == 2 && waiting() < s.settings[5]) {
                        continue;
                    }
                    int p = next(c);
                    if (p >= 0) {
                        who[c] = p;
                        cutLeft[c] = length(p, c);
                        longestEnd = Math.max(longestEnd, m + cutLeft[c]);
                        waits[p] = false;
                        fate[p] = 3;
                        wait[p] = m - s.people.get(p)[0];
                        began[p] = m;
                        by[p] = c;
                        coin += s.prices[s.people.get(p)[2]] * heads(p);
                    }
                }
                note(m, who);
            }
            for (int p = 0; p < n; p++) {
                if (waits[p]) {
                    fate[p] = 4;
                    wait[p] = 240 - s.people.get(p)[0];
                }
            }
        }

        void tick(int[] who, int[] cutLeft, int[] restLeft) {
            for (int c = 0; c < 3; c++) {
                if (who[c] >= 0) {
                    cutLeft[c]--;
                    if (cutLeft[c] == 0) {
                        who[c] = -1;
                        restLeft[c] = s.settings[3];
                    }
                } else if (restLeft[c] > 0) {
                    restLeft[c]--;
                }
            }
        }

        void arrivals(int m, int shut) {
            for (int p = 0; p < n; p++) {
                int[] row = s.people.get(p);
                if (row[0] != m || m >= shut) {
                    continue;
                }
                int heads = heads(p);
                for (int q = 0; q < n; q++) {
                    heads += waits[q] ? heads(q) : 0;
                }
                if (heads > s.settings[0] || s.settings[1] * waiting() / 2 > s.settings[2]) {
                    fate[p] = 1;
                } else {
                    waits[p] = true;
                    place[p] = row[1] == 4 ? row[3] : m;
                }
            }
        }

        void moves(int m) {
            for (int p = 0; p < n; p++) {
                int[] row = s.people.get(p);
                if (waits[p] && row[1] == 5 && m - row[3] == row[0]) {
                    waits[p] = false;
                    fate[p] = 2;
                    wait[p] = row[3];
                }
                if (waits[p] && row[1] == 3 && m == row[0] + 5) {
                    out[p] = true;
                }
                if (waits[p] && row[1] == 3 && m == row[0] + 5 + row[3]) {
                    out[p] = false;
                    if (s.settings[6] == 0) {
                        place[p] = m;
                    }
                }
            }
        }

        void note(int m, int[] who) {
            for (int c = 0; c < 3; c++) {
                chair[c][m] = who[c] < 0 ? NONE : who[c];
            }
            thirdMinutes += who[2] >= 0 ? 1 : 0;
            waitingAt[m] = waiting();
            for (int p = 0; p < n; p++) {
                sittingAt[m] += waits[p] && !out[p] ? heads(p) : 0;
            }
        }

        int heads(int p) {
            return s.people.get(p)[1] == 2 ? s.people.get(p)[3] : 1;
        }

        int waiting() {
            int sum = 0;
            for (int p = 0; p < n; p++) {
                sum += waits[p] ? 1 : 0;
            }
            return sum;
        }

        int length(int p, int c) {
            int[] row = s.people.get(p);
            return s.needs[c][row[2]] * heads(p) + (row[1] == 1 ? s.settings[4] : 0);
        }

        int next(int c) {
            List<Integer> them = new ArrayList<>();
            for (int p = 0; p < n; p++) {
                int[] row = s.people.get(p);
                if (waits[p] && !out[p] && !(row[1] == 1 && row[3] != c)) {
                    them.add(p);
                }
            }
            for (int rule : new int[] {s.settings[7], 0}) {
                for (int a : them) {
                    boolean beaten = false;
                    for (int b : them) {
                        beaten |= a != b && before(b, a, c, rule);
                    }
                    if (!beaten) {
                        return a;
                    }
                }
                quarrels += them.isEmpty() ? 0 : 1;
            }
            return -1;
        }

        boolean before(int a, int b, int c, int rule) {
            if (rule == 1) {
                boolean ab = told(s, s.people.get(a)[1], s.people.get(b)[1]);
                boolean ba = told(s, s.people.get(b)[1], s.people.get(a)[1]);
                if (ab && !ba) {
                    return true;
                }
                if (ba && !ab) {
                    return false;
                }
            }
            if (rule == 2 && length(a, c) != length(b, c)) {
                return length(a, c) < length(b, c);
            }
            return place[a] != place[b] ? place[a] < place[b] : a < b;
        }

        int sum() {
            int sum = 0;
            for (int w : wait) {
                sum += w;
            }
            return sum;
        }

        int most() {
            int most = 0;
            for (int w : wait) {
                most = Math.max(most, w);
            }
            return most;
        }

        int fates(int f) {
            int sum = 0;
            for (int x : fate) {
                sum += x == f ? 1 : 0;
            }
            return sum;
        }
    }

    State s = new State();
    State image = null;
    String tape = "";
    final Object[] sheets = new Object[4];

    Played play() {
        return new Played(s, -1, 240);
    }

    static boolean told(State s, int a, int b) {
        for (int[] pair : s.manners) {
            if (pair[0] == a && pair[1] == b) {
                return true;
            }
        }
        return false;
    }

    static boolean in(int v, int least, int most) {
        return least <= v && v <= most;
    }

    static boolean asTold(int minute, int kind, int sort, int number) {
        if (!in(minute, 0, 239) || !in(sort, 0, 3)) {
            return false;
        }
        switch (kind) {
            case 0: return number == 0;
            case 1: return in(number, 0, 2);
            case 2: return in(number, 2, 4);
            case 3:
            case 5: return in(number, 1, 99);
            case 4: return in(number, 0, minute);
            default: return false;
        }
    }

    int set(int what, int v) {
        int[][] range = {{1, 12}, {0, 40}, {0, 239}, {0, 10}, {0, 20}, {0, 13}, {0, 1}, {0, 2}};
        if (!in(what, 0, 7) || !in(v, range[what][0], range[what][1])) {
            return BAD;
        }
        int was = s.settings[what];
        s.settings[what] = v;
        return was;
    }

    int cut(int c, int sort, int v) {
        if (!in(c, 0, 2) || !in(sort, 0, 3) || !in(v, 1, 60)) {
            return BAD;
        }
        int was = s.needs[c][sort];
        s.needs[c][sort] = v;
        return was;
    }

    int price(int sort, int v) {
        if (!in(sort, 0, 3) || !in(v, 0, 99)) {
            return BAD;
        }
        int was = s.prices[sort];
        s.prices[sort] = v;
        return was;
    }

    int person(int minute, int kind, int sort, int number) {
        if (!asTold(minute, kind, sort, number)) {
            return BAD;
        }
        if (s.people.size() == 12) {
            return FULL;
        }
        s.people.add(new int[] {minute, kind, sort, number});
        return s.people.size() - 1;
    }

    boolean isOne(int p) {
        return in(p, 0, s.people.size() - 1);
    }

    int told(int p, int what) {
        return isOne(p) && in(what, 0, 3) ? s.people.get(p)[what] : BAD;
    }

    int strike(int p) {
        if (!isOne(p)) {
            return BAD;
        }
        s.people.remove(p);
        s.words.removeIf(w -> w[0] == p || w[1] == p);
        for (int[] w : s.words) {
            w[0] -= w[0] > p ? 1 : 0;
            w[1] -= w[1] > p ? 1 : 0;
        }
        return s.people.size();
    }

    int type(long w, int n) {
        if (!in(n, 1, 8)) {
            return BAD;
        }
        String text = "";
        for (int i = n - 1; i >= 0; i--) {
            int b = (int) (w >> (8 * i)) & 0xff;
            if (b < ' ' || b > '~') {
                return BAD;
            }
            text += (char) b;
        }
        if (tape.length() + n > 80) {
            return FULL;
        }
        tape += text;
        return tape.length();
    }

    /** Reads byte by byte; the state says what may stand next. */
    int manners() {
        String text = tape;
        tape = "";
        List<int[]> pairs = new ArrayList<>();
        int state = 0;
        int one = -1;
        for (int i = 0; i < text.length(); i++) {
            char b = text.charAt(i);
            if (b == ' ') {
                continue;
            }
            int kind = "pcgolt".indexOf(b);
            if (state == 0 && kind >= 0) {
                one = kind;
                state = 1;
            } else if (state == 1 && kind >= 0 && kind != one) {
                pairs.add(new int[] {one, kind});
                state = 2;
            } else if (state == 2 && b == ',' && pairs.size() < 8) {
                state = 0;
            } else {
                return -20 - i;
            }
        }
        if (state != 2) {
            return -20 - text.length();
        }
        s.manners = pairs;
        return pairs.size();
    }

    /** States: 0 a minute's first figure, 1 in it, 2 kind, 3 sort, 4 colon, 5 a number's first figure, 6 in it, 7 end. */
    int people() {
        String text = tape;
        tape = "";
        List<int[]> rows = new ArrayList<>();
        int[] row = new int[4];
        int state = 0;
        int start = 0;
        String figures = "";
        for (int i = 0; i <= text.length(); i++) {
            char b = i < text.length() ? text.charAt(i) : '\0';
            boolean figure = b >= '0' && b <= '9';
            if ((state == 1 || state == 6) && !figure) {
                java.math.BigInteger value = new java.math.BigInteger(figures);
                row[state == 1 ? 0 : 3] = value.bitLength() > 30 ? 1 << 30 : value.intValue();
                if (state == 1 ? row[0] > 239 : !asTold(row[0], row[1], row[2], row[3])) {
                    return -20 - start;
                }
                if (state == 6) {
                    rows.add(row);
                    row = new int[4];
                }
                state++;
            }
            if (b == ' ') {
                continue;
            }
            if (i == text.length()) {
                break;
            }
            if ((state == 0 || state == 5) && figure) {
                start = i;
                figures = "" + b;
                state++;
            } else if ((state == 1 || state == 6) && figure) {
                figures += b;
            } else if (state == 2 && "pcgolt".indexOf(b) >= 0) {
                row[1] = "pcgolt".indexOf(b);
                state = 3;
            } else if (state == 3 && b >= '0' && b <= '3') {
                row[2] = b - '0';
                state = row[1] == 0 ? 7 : 4;
                if (row[1] == 0) {
                    rows.add(row);
                    row = new int[4];
                }
            } else if (state == 4 && b == ':') {
                state = 5;
            } else if (state == 7 && b == ';' && rows.size() < 8) {
                state = 0;
            } else {
                return -20 - i;
            }
        }
        if (state != 7) {
            return -20 - text.length();
        }
        if (s.people.size() + rows.size() > 12) {
            return FULL;
        }
        s.people.addAll(rows);
        return rows.size();
    }

    int before(int a, int b) {
        return in(a, 0, 5) && in(b, 0, 5) && a != b ? (told(s, a, b) ? 1 : 0) : BAD;
    }

    int rounds() {
        int set = 0;
        for (int k = 0; k < 6; k++) {
            boolean[] met = new boolean[6];
            walk(k, met);
            set |= met[k] ? 1 << k : 0;
        }
        return set;
    }

    private void walk(int k, boolean[] met) {
        for (int[] pair : s.manners) {
            if (pair[0] == k && !met[pair[1]]) {
                met[pair[1]] = true;
                walk(pair[1], met);
            }
        }
    }

    int count(int what) {
        return what == 0 ? s.people.size() : what == 1 ? s.manners.size() : what == 2 ? s.words.size() : BAD;
    }

    int fate(int p, int what) {
        if (!isOne(p) || !in(what, 0, 3)) {
            return BAD;
        }
        Played d = play();
        return new int[][] {d.fate, d.wait, d.began, d.by}[what][p];
    }

    int at(int m, int what) {
        if (!in(m, 0, 239) || !in(what, 0, 4)) {
            return BAD;
        }
        Played d = play();
        return what == 0 ? d.waitingAt[m] : what == 1 ? d.sittingAt[m] : d.chair[what - 2][m];
    }

    int day(int what) {
        if (!in(what, 0, 8)) {
            return BAD;
        }
        Played d = play();
        return new int[] {d.coin, d.sum(), d.most(), d.fates(1), d.fates(2), d.fates(3), d.fates(4), d.quarrels,
            d.thirdMinutes}[what];
    }

    int more(int minute, int kind, int sort, int number, int what) {
        if (!asTold(minute, kind, sort, number) || !in(what, 0, 1)) {
            return BAD;
        }
        if (s.people.size() == 12) {
            return FULL;
        }
        State would = s.copy();
        would.people.add(new int[] {minute, kind, sort, number});
        Played d = new Played(would, -1, 240);
        return what == 0 ? d.wait[d.n - 1] : d.fate[d.n - 1];
    }

    int tell(int what) {
        if (!in(what, 0, 1)) {
            return BAD;
        }
        Played d = play();
        int best = -1;
        int fewest = 99;
        boolean any = false;
        for (int t = 60; t >= 0; t -= 5) {
            int lied = 0;
            for (int p = 0; p < d.n; p++) {
                if (d.fate[p] >= 2) {
                    any = true;
                    lied += d.wait[p] > t + 10 || d.wait[p] < t - 10 ? 1 : 0;
                }
            }
            if (lied <= fewest) {
                fewest = lied;
                best = t;
            }
        }
        return !any ? NONE : what == 0 ? best : fewest;
    }

    int choosers() {
        State would = s.copy();
        for (int[] row : would.people) {
            if (row[1] == 1) {
                row[1] = 0;
                row[3] = 0;
            }
        }
        Played is = play();
        Played wouldBe = new Played(would, -1, 240);
        int sum = 0;
        for (int p = 0; p < is.n; p++) {
            if (s.people.get(p)[1] != 1) {
                sum += is.wait[p] - wouldBe.wait[p];
            }
        }
        return sum;
    }

    int third(int fee, int what) {
        if (!in(fee, 0, 99) || !in(what, 0, 1)) {
            return BAD;
        }
        int best = -1;
        int least = Integer.MAX_VALUE;
        for (int t = 0; t <= 13; t++) {
            State would = s.copy();
            would.settings[5] = t;
            Played d = new Played(would, -1, 240);
            int sum = d.sum() + fee * d.thirdMinutes;
            if (sum <= least) {
                least = sum;
                best = t;
            }
        }
        return what == 0 ? best : least;
    }

    int last(int minute) {
        if (!in(minute, 1, 239)) {
            return BAD;
        }
        for (int shut = 240; shut > 0; shut--) {
            Played d = new Played(s, -1, shut);
            if (d.longestEnd <= minute && d.fates(4) == 0) {
                return shut;
            }
        }
        return 0;
    }

    int worth(int c) {
        return in(c, 0, 2) ? play().coin - new Played(s, c, 240).coin : BAD - 100000;
    }

    int rule(int rule, int what) {
        if (!in(rule, 0, 2) || !in(what, 0, 2)) {
            return BAD;
        }
        State would = s.copy();
        would.settings[7] = rule;
        Played d = new Played(would, -1, 240);
        return new int[] {d.sum(), d.most(), d.coin}[what];
    }

    int best() {
        int set = 7;
        for (int a = 0; a < 3; a++) {
            for (int b = 0; b < 3; b++) {
                boolean asGood = rule(b, 0) <= rule(a, 0) && rule(b, 1) <= rule(a, 1) && rule(b, 2) >= rule(a, 2);
                boolean better = rule(b, 0) < rule(a, 0) || rule(b, 1) < rule(a, 1) || rule(b, 2) > rule(a, 2);
                if (asGood && better) {
                    set &= ~(1 << a);
                }
            }
        }
        return set;
    }

    int word(int a, int b) {
        if (!isOne(a) || !isOne(b) || a == b) {
            return BAD;
        }
        if (s.words.size() == 12) {
            return FULL;
        }
        s.words.add(new int[] {a, b});
        return s.words.size() - 1;
    }

    int hush() {
        int n = s.words.size();
        s.words.clear();
        return n;
    }

    /** Whether words (all but some) and more of them have an order: nobody is ahead of himself. */
    private boolean haveOrder(int without, List<int[]> also) {
        boolean[][] ahead = new boolean[12][12];
        for (int i = 0; i < s.words.size(); i++) {
            if ((without >> i & 1) == 0) {
                ahead[s.words.get(i)[0]][s.words.get(i)[1]] = true;
            }
        }
        for (int[] w : also) {
            ahead[w[0]][w[1]] = true;
        }
        for (int k = 0; k < 12; k++) {
            for (int i = 0; i < 12; i++) {
                for (int j = 0; j < 12; j++) {
                    ahead[i][j] |= ahead[i][k] && ahead[k][j];
                }
            }
        }
        for (int i = 0; i < 12; i++) {
            if (ahead[i][i]) {
                return false;
            }
        }
        return true;
    }

    int drops() {
        for (int n = 0; n <= s.words.size(); n++) {
            for (int set = 0; set < 1 << s.words.size(); set++) {
                if (Integer.bitCount(set) == n && haveOrder(set, List.of())) {
                    return set;
                }
            }
        }
        return -1;
    }

    int first() {
        int dropped = drops();
        int set = 0;
        for (int p = 0; p < s.people.size(); p++) {
            List<int[]> also = new ArrayList<>();
            for (int q = 0; q < s.people.size(); q++) {
                if (q != p) {
                    also.add(new int[] {p, q});
                }
            }
            set |= haveOrder(dropped, also) ? 1 << p : 0;
        }
        return set;
    }

    int orders(int people) {
        if (people <= 0 || people >= 1 << s.people.size() || Integer.bitCount(people) > 8) {
            return BAD;
        }
        return orders(people, people, drops());
    }

    /** How many orders of those left there are, one after the other from the front. */
    private int orders(int left, int among, int dropped) {
        if (left == 0) {
            return 1;
        }
        int sum = 0;
        for (int p = 0; p < 12; p++) {
            boolean may = (left >> p & 1) != 0;
            for (int i = 0; i < s.words.size(); i++) {
                int[] w = s.words.get(i);
                may &= (dropped >> i & 1) != 0 || w[1] != p || (left >> w[0] & 1) == 0 || (among >> w[0] & 1) == 0;
            }
            sum += may ? orders(left & ~(1 << p), among, dropped) : 0;
        }
        return sum;
    }

    int image() {
        image = s.copy();
        return 1;
    }

    int restore() {
        if (image == null) {
            return NONE;
        }
        s = image.copy();
        return 1;
    }

    private static int size(Object sheet) {
        return java.lang.reflect.Array.getLength(sheet);
    }

    private int taken(int sheet, int lane, int from, int n) {
        Object row = sheets[sheet];
        if (row == null) {
            return NULL;
        }
        Class<?> type = lane == 0 ? byte[].class : lane == 1 ? short[].class : int[].class;
        if (row.getClass() != type) {
            return CAST;
        }
        return from < 0 || (long) from + n > size(row) ? INDEX : 0;
    }

    private void put(int sheet, int i, int v) {
        if (sheets[sheet] instanceof byte[] row) {
            row[i] = (byte) v;
        } else if (sheets[sheet] instanceof short[] row) {
            row[i] = (short) v;
        } else if (sheets[sheet] instanceof int[] row) {
            row[i] = v;
        }
    }

    int crowd(int sheet, int lane, int from, int n) {
        if (!in(sheet, 0, 3) || !in(lane, 0, 2) || !in(n, 1, 6)) {
            return BAD;
        }
        int taken = taken(sheet, lane, from, 4 * n);
        if (taken != 0) {
            return taken;
        }
        List<int[]> rows = new ArrayList<>();
        for (int r = 0; r < n; r++) {
            int[] row = new int[4];
            for (int i = 0; i < 4; i++) {
                row[i] = java.lang.reflect.Array.getInt(sheets[sheet], from + 4 * r + i);
            }
            if (!asTold(row[0], row[1], row[2], row[3])) {
                return NOT;
            }
            rows.add(row);
        }
        if (s.people.size() + n > 12) {
            return FULL;
        }
        s.people.addAll(rows);
        return n;
    }

    int sheet(int sheet, int lane, int n) {
        if (!in(sheet, 0, 3) || !in(lane, 0, 2) || n > 24) {
            return BAD;
        }
        if (n < 0) {
            return SIZE;
        }
        sheets[sheet] = lane == 0 ? new byte[n] : lane == 1 ? new short[n] : new int[n];
        return n;
    }

    int drop(int sheet) {
        if (!in(sheet, 0, 3)) {
            return BAD;
        }
        if (sheets[sheet] == null) {
            return NULL;
        }
        int n = size(sheets[sheet]);
        sheets[sheet] = null;
        return n;
    }

    int item(int sheet, int lane, int i, int v) {
        if (!in(sheet, 0, 3) || !in(lane, 0, 2)) {
            return BAD;
        }
        int taken = taken(sheet, lane, i, 1);
        if (taken != 0) {
            return taken;
        }
        put(sheet, i, v);
        return 1;
    }

    int film(int sheet, int lane, int from) {
        if (!in(sheet, 0, 3) || !in(lane, 0, 2)) {
            return BAD;
        }
        int taken = taken(sheet, lane, from, s.people.size());
        if (taken != 0) {
            return taken;
        }
        int[] waits = play().wait;
        for (int p = 0; p < waits.length; p++) {
            put(sheet, from + p, waits[p]);
        }
        return waits.length;
    }
}
