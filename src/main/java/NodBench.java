/**
 * A room with two chairs, a third that may cut, and a bench: who comes, who waits, who is next,
 * and what the day would be if something in it were different.
 *
 * Every row is made in a constructor and used again, so that no call makes anything new.
 */
public final class NodBench {
    public static final int BAD = -1, NOT = -2, FULL = -3, NONE = -4, NULL = -11, CAST = -12, INDEX = -13, SIZE = -14;

    private static final int BELOW_NOUGHT = -100000;
    private static final int NOBODY = -1;

    private static final int MINUTES = 240;
    private static final int SORTS = 4;
    private static final int CUTTERS = 3;
    private static final int PEOPLE = 12;
    private static final int WORDS = 12;
    private static final int RULES = 3;
    private static final int MOST_NEED = 60;
    private static final int MOST_PRICE = 99;
    private static final int MOST_FEE = 99;

    private static final int SEATS = 0, GUESS = 1, PATIENCE = 2, REST = 3, TALK = 4, THIRD = 5, KEEPS = 6, RULE = 7;
    private static final int SETTINGS = 8;
    private static final int[] SETTING_LEAST = {1, 0, 0, 0, 0, 0, 0, 0};
    private static final int[] SETTING_MOST = {12, 40, 239, 10, 20, 13, 1, 2};
    private static final int NEVER = 13;
    private static final int BY_PLACE = 0, BY_MANNERS = 1, BY_SHORTER = 2;

    private static final int PLAIN = 0, CHOOSING = 1, GROUPED = 2, OUT = 3, LISTED = 4, TIRED = 5;
    private static final int KINDS = 6;
    private static final int[] NUMBER_LEAST = {0, 0, 2, 1, 0, 1};
    private static final int[] NUMBER_MOST = {0, 2, 4, 99, 239, 99};
    private static final int OUT_AFTER = 5;

    private static final int TURNED = 1, GONE = 2, CUT = 3;
    /** Who still waits when the day is over has waited in vain: one number serves for both. */
    private static final int WAITING = 4;

    private static final int TELL_STEP = 5, TELL_MOST = 60, LIE = 10;
    private static final int MOST_ORDERED = 8;

    private static final int TAPE = 80;
    private static final int TEXT_PARTS = 8;
    private static final int FAULT = -20;

    private static final int SHEETS = 4;
    private static final int LANES = 3;
    private static final int ITEMS = 24;
    private static final int ROWS = 6;
    private static final int ROW_ITEMS = 4;

    private final Day today = new Day();
    private final Day other = new Day();
    /** What is so. */
    private final Room now = today.room;
    /** What would be: any call may overwrite it. */
    private final Room trial = other.room;
    private final Room kept = new Room();
    private boolean hasImage;
    private final Tape tape = new Tape();
    private final Sheets sheets = new Sheets();
    private final Orders ordering = new Orders();
    private final int[] figures = new int[RULES * 3];

    public NodBench() {
    }

    // ---- 1 the shop, people

    public int set(int what, int v) {
        if (!isBelow(what, SETTINGS) || v < SETTING_LEAST[what] || v > SETTING_MOST[what]) {
            return BAD;
        }
        int was = now.shop.settings[what];
        now.shop.settings[what] = v;
        today.isStale = true;
        return was;
    }

    public int cut(int cutter, int sort, int v) {
        if (!isBelow(cutter, CUTTERS) || !isBelow(sort, SORTS) || v < 1 || v > MOST_NEED) {
            return BAD;
        }
        int place = cutter * SORTS + sort;
        int was = now.shop.needs[place];
        now.shop.needs[place] = v;
        today.isStale = true;
        return was;
    }

    public int price(int sort, int v) {
        if (!isBelow(sort, SORTS) || v < 0 || v > MOST_PRICE) {
            return BAD;
        }
        int was = now.shop.prices[sort];
        now.shop.prices[sort] = v;
        today.isStale = true;
        return was;
    }

    public int person(int minute, int kind, int sort, int number) {
        if (!areLegal(minute, kind, sort, number)) {
            return BAD;
        }
        if (now.guests.size >= PEOPLE) {
            return FULL;
        }
        now.guests.add(minute, kind, sort, number);
        today.isStale = true;
        return now.guests.size - 1;
    }

    public int told(int person, int what) {
        if (!isBelow(person, now.guests.size)) {
            return BAD;
        }
        switch (what) {
            case 0: return now.guests.minutes[person];
            case 1: return now.guests.kinds[person];
            case 2: return now.guests.sorts[person];
            case 3: return now.guests.numbers[person];
            default: return BAD;
        }
    }

    public int strike(int person) {
        if (!isBelow(person, now.guests.size)) {
            return BAD;
        }
        now.guests.remove(person);
        now.claims.forget(person);
        today.isStale = true;
        return now.guests.size;
    }

    public int type(long w, int n) {
        if (n < 1 || n > 8 || !Tape.areSigns(w, n)) {
            return BAD;
        }
        if (tape.length + n > TAPE) {
            return FULL;
        }
        tape.add(w, n);
        return tape.length;
    }

    public int manners() {
        trial.habits.clear();
        int answer = tape.readHabits(trial.habits);
        tape.length = 0;
        if (answer >= 0) {
            now.habits.copyFrom(trial.habits);
            today.isStale = true;
        }
        return answer;
    }

    public int before(int kind, int other) {
        if (!isBelow(kind, KINDS) || !isBelow(other, KINDS) || kind == other) {
            return BAD;
        }
        return now.habits.goOver(kind, other) ? 1 : 0;
    }

    public int rounds() {
        return now.habits.inRounds();
    }

    public int people() {
        trial.guests.size = 0;
        int answer = tape.readGuests(trial.guests);
        tape.length = 0;
        if (answer < 0) {
            return answer;
        }
        if (now.guests.size + answer > PEOPLE) {
            return FULL;
        }
        now.guests.addAll(trial.guests);
        today.isStale = true;
        return answer;
    }

    public int count(int what) {
        switch (what) {
            case 0: return now.guests.size;
            case 1: return now.habits.size;
            case 2: return now.claims.size;
            default: return BAD;
        }
    }

    // ---- 2 the day

    public int fate(int person, int what) {
        if (!isBelow(person, now.guests.size)) {
            return BAD;
        }
        playToday();
        switch (what) {
            case 0: return today.fates[person];
            case 1: return today.waits[person];
            case 2: return today.begins[person];
            case 3: return today.cutters[person];
            default: return BAD;
        }
    }

    public int at(int minute, int what) {
        if (!isBelow(minute, MINUTES)) {
            return BAD;
        }
        playToday();
        switch (what) {
            case 0: return today.waitingAt(minute);
            case 1: return today.seatedAt(minute);
            case 2:
            case 3:
            case 4: return today.underCutter(what - 2, minute);
            default: return BAD;
        }
    }

    public int day(int what) {
        playToday();
        switch (what) {
            case 0: return today.coin();
            case 1: return today.waitsTogether();
            case 2: return today.longestWait();
            case 3: return today.ofFate(TURNED);
            case 4: return today.ofFate(GONE);
            case 5: return today.ofFate(CUT);
            case 6: return today.ofFate(WAITING);
            case 7: return today.quarrels;
            case 8: return today.minutesOfThird();
            default: return BAD;
        }
    }

    // ---- 3 what would be

    public int more(int minute, int kind, int sort, int number, int what) {
        if (!areLegal(minute, kind, sort, number) || !isBelow(what, 2)) {
            return BAD;
        }
        int size = now.guests.size;
        if (size >= PEOPLE) {
            return FULL;
        }
        trial.copyFrom(now);
        trial.guests.add(minute, kind, sort, number);
        other.play(NOBODY);
        return what == 0 ? other.waits[size] : other.fates[size];
    }

    public int tell(int what) {
        if (!isBelow(what, 2)) {
            return BAD;
        }
        playToday();
        if (today.ofFate(TURNED) == now.guests.size) {
            return NONE;
        }
        int best = 0;
        int fewest = today.liedTo(0);
        for (int time = TELL_STEP; time <= TELL_MOST; time += TELL_STEP) {
            int lied = today.liedTo(time);
            if (lied < fewest) {
                fewest = lied;
                best = time;
            }
        }
        return what == 0 ? best : fewest;
    }

    public int choosers() {
        playToday();
        trial.copyFrom(now);
        trial.guests.makeChoosersPlain();
        other.play(NOBODY);
        int cost = 0;
        for (int person = 0; person < now.guests.size; person++) {
            if (now.guests.kinds[person] != CHOOSING) {
                cost += today.waits[person] - other.waits[person];
            }
        }
        return cost;
    }

    public int third(int fee, int what) {
        if (fee < 0 || fee > MOST_FEE || !isBelow(what, 2)) {
            return BAD;
        }
        trial.copyFrom(now);
        int best = NEVER;
        int least = 0;
        for (int third = NEVER; third >= 0; third--) {
            trial.shop.settings[THIRD] = third;
            other.play(NOBODY);
            int sum = other.waitsTogether() + fee * other.minutesOfThird();
            if (third == NEVER || sum < least) {
                least = sum;
                best = third;
            }
        }
        return what == 0 ? best : least;
    }

    public int last(int minute) {
        if (minute < 1 || minute >= MINUTES) {
            return BAD;
        }
        trial.copyFrom(now);
        int shut = MINUTES;
        // Only the minutes at which somebody comes make a difference, and each turn takes one away.
        for (int turn = 0; turn <= PEOPLE; turn++) {
            other.play(NOBODY);
            if (other.isOverBy(minute)) {
                return shut;
            }
            shut = trial.guests.latest();
            trial.guests.keepBefore(shut);
        }
        return 0;
    }

    public int worth(int cutter) {
        if (!isBelow(cutter, CUTTERS)) {
            return BELOW_NOUGHT + BAD;
        }
        playToday();
        trial.copyFrom(now);
        other.play(cutter);
        return today.coin() - other.coin();
    }

    public int rule(int rule, int what) {
        if (!isBelow(rule, RULES) || !isBelow(what, 3)) {
            return BAD;
        }
        playByRule(rule);
        switch (what) {
            case 0: return other.waitsTogether();
            case 1: return other.longestWait();
            default: return other.coin();
        }
    }

    public int best() {
        for (int rule = 0; rule < RULES; rule++) {
            playByRule(rule);
            figures[rule * 3] = other.waitsTogether();
            figures[rule * 3 + 1] = other.longestWait();
            // Turned round, so that less is better in all three.
            figures[rule * 3 + 2] = -other.coin();
        }
        int best = 0;
        for (int rule = 0; rule < RULES; rule++) {
            boolean isBeaten = false;
            for (int rival = 0; rival < RULES; rival++) {
                isBeaten = isBeaten || beats(rival, rule);
            }
            best |= isBeaten ? 0 : 1 << rule;
        }
        return best;
    }

    public int word(int first, int second) {
        if (!isBelow(first, now.guests.size) || !isBelow(second, now.guests.size) || first == second) {
            return BAD;
        }
        if (now.claims.size >= WORDS) {
            return FULL;
        }
        now.claims.add(first, second);
        return now.claims.size - 1;
    }

    public int hush() {
        int gone = now.claims.size;
        now.claims.clear();
        return gone;
    }

    public int drops() {
        return now.claims.fewestFalse();
    }

    public int first() {
        int everybody = (1 << now.guests.size) - 1;
        return everybody & ~now.claims.behindOthers(now.claims.held(), everybody);
    }

    public int orders(int people) {
        int everybody = (1 << now.guests.size) - 1;
        if (people <= 0 || (people & ~everybody) != 0 || Integer.bitCount(people) > MOST_ORDERED) {
            return BAD;
        }
        return ordering.countOf(people, now.claims);
    }

    public int image() {
        kept.copyFrom(now);
        hasImage = true;
        return 1;
    }

    public int restore() {
        if (!hasImage) {
            return NONE;
        }
        now.copyFrom(kept);
        today.isStale = true;
        return 1;
    }

    // ---- 4 sheets

    public int crowd(int sheet, int lane, int from, int n) {
        if (!areSheetAndLane(sheet, lane) || n < 1 || n > ROWS) {
            return BAD;
        }
        int refusal = sheets.refusal(sheet, lane, from, n * ROW_ITEMS);
        if (refusal != 0) {
            return refusal;
        }
        trial.guests.size = 0;
        for (int row = 0; row < n; row++) {
            int i = from + row * ROW_ITEMS;
            int minute = sheets.read(sheet, i);
            int kind = sheets.read(sheet, i + 1);
            int sort = sheets.read(sheet, i + 2);
            int number = sheets.read(sheet, i + 3);
            if (!areLegal(minute, kind, sort, number)) {
                return NOT;
            }
            trial.guests.add(minute, kind, sort, number);
        }
        if (now.guests.size + n > PEOPLE) {
            return FULL;
        }
        now.guests.addAll(trial.guests);
        today.isStale = true;
        return n;
    }

    public int sheet(int sheet, int lane, int n) {
        if (!areSheetAndLane(sheet, lane) || n > ITEMS) {
            return BAD;
        }
        if (n < 0) {
            return SIZE;
        }
        sheets.renew(sheet, lane, n);
        return n;
    }

    public int drop(int sheet) {
        if (!isBelow(sheet, SHEETS)) {
            return BAD;
        }
        if (sheets.lanes[sheet] == Sheets.NOTHING) {
            return NULL;
        }
        int had = sheets.sizes[sheet];
        sheets.renew(sheet, Sheets.NOTHING, 0);
        return had;
    }

    public int item(int sheet, int lane, int i, int v) {
        if (!areSheetAndLane(sheet, lane)) {
            return BAD;
        }
        int refusal = sheets.refusal(sheet, lane, i, 1);
        if (refusal != 0) {
            return refusal;
        }
        sheets.write(sheet, i, v);
        return 1;
    }

    public int film(int sheet, int lane, int from) {
        if (!areSheetAndLane(sheet, lane)) {
            return BAD;
        }
        int size = now.guests.size;
        int refusal = sheets.refusal(sheet, lane, from, size);
        if (refusal != 0) {
            return refusal;
        }
        playToday();
        for (int person = 0; person < size; person++) {
            sheets.write(sheet, from + person, today.waits[person]);
        }
        return size;
    }

    // ---- what several calls need

    private static boolean isBelow(int value, int bound) {
        return value >= 0 && value < bound;
    }

    private static boolean areSheetAndLane(int sheet, int lane) {
        return isBelow(sheet, SHEETS) && isBelow(lane, LANES);
    }

    /** Whether one of PEOPLE may be told so. */
    private static boolean areLegal(int minute, int kind, int sort, int number) {
        if (!isBelow(minute, MINUTES) || !isBelow(kind, KINDS) || !isBelow(sort, SORTS)) {
            return false;
        }
        int most = kind == LISTED ? minute : NUMBER_MOST[kind];
        return number >= NUMBER_LEAST[kind] && number <= most;
    }

    private void playToday() {
        if (today.isStale) {
            today.play(NOBODY);
            today.isStale = false;
        }
    }

    private void playByRule(int rule) {
        trial.copyFrom(now);
        trial.shop.settings[RULE] = rule;
        other.play(NOBODY);
    }

    private boolean beats(int rival, int rule) {
        boolean isBetter = false;
        for (int figure = 0; figure < 3; figure++) {
            int his = figures[rival * 3 + figure];
            int own = figures[rule * 3 + figure];
            if (his > own) {
                return false;
            }
            isBetter = isBetter || his < own;
        }
        return isBetter;
    }

    /** What an IMAGE keeps. */
    private static final class Room {
        final Shop shop = new Shop();
        final Habits habits = new Habits();
        final Guests guests = new Guests();
        final Claims claims = new Claims();

        void copyFrom(Room model) {
            shop.copyFrom(model.shop);
            habits.copyFrom(model.habits);
            guests.copyFrom(model.guests);
            claims.copyFrom(model.claims);
        }
    }

    /** SETTINGS, what CUTTERS need, PRICES. */
    private static final class Shop {
        final int[] settings = {7, 10, 60, 0, 5, NEVER, 1, 1};
        final int[] needs = {10, 15, 20, 30, 12, 18, 24, 36, 20, 30, 40, 60};
        final int[] prices = {10, 15, 20, 30};

        void copyFrom(Shop model) {
            System.arraycopy(model.settings, 0, settings, 0, SETTINGS);
            System.arraycopy(model.needs, 0, needs, 0, CUTTERS * SORTS);
            System.arraycopy(model.prices, 0, prices, 0, SORTS);
        }
    }

    /** MANNERS: for each KIND the set of those that it goes before. */
    private static final class Habits {
        final int[] over = new int[KINDS];
        final int[] reach = new int[KINDS];
        /** How many pairs were told: one that is told twice counts twice. */
        int size;

        void clear() {
            for (int kind = 0; kind < KINDS; kind++) {
                over[kind] = 0;
            }
            size = 0;
        }

        void add(int kind, int behind) {
            over[kind] |= 1 << behind;
            size++;
        }

        void copyFrom(Habits model) {
            System.arraycopy(model.over, 0, over, 0, KINDS);
            size = model.size;
        }

        boolean goOver(int kind, int behind) {
            return ((over[kind] >> behind) & 1) != 0;
        }

        int inRounds() {
            System.arraycopy(over, 0, reach, 0, KINDS);
            for (int by = 0; by < KINDS; by++) {
                for (int from = 0; from < KINDS; from++) {
                    if (((reach[from] >> by) & 1) != 0) {
                        reach[from] |= reach[by];
                    }
                }
            }
            int set = 0;
            for (int kind = 0; kind < KINDS; kind++) {
                set |= reach[kind] & (1 << kind);
            }
            return set;
        }
    }

    /** PEOPLE as they are told. */
    private static final class Guests {
        final int[] minutes = new int[PEOPLE];
        final int[] kinds = new int[PEOPLE];
        final int[] sorts = new int[PEOPLE];
        final int[] numbers = new int[PEOPLE];
        int size;

        void add(int minute, int kind, int sort, int number) {
            if (size < PEOPLE) {
                minutes[size] = minute;
                kinds[size] = kind;
                sorts[size] = sort;
                numbers[size] = number;
                size++;
            }
        }

        void addAll(Guests more) {
            for (int i = 0; i < more.size; i++) {
                add(more.minutes[i], more.kinds[i], more.sorts[i], more.numbers[i]);
            }
        }

        void remove(int person) {
            int behind = size - 1 - person;
            System.arraycopy(minutes, person + 1, minutes, person, behind);
            System.arraycopy(kinds, person + 1, kinds, person, behind);
            System.arraycopy(sorts, person + 1, sorts, person, behind);
            System.arraycopy(numbers, person + 1, numbers, person, behind);
            size--;
        }

        void copyFrom(Guests model) {
            size = 0;
            addAll(model);
        }

        void makeChoosersPlain() {
            for (int i = 0; i < size; i++) {
                if (kinds[i] == CHOOSING) {
                    kinds[i] = PLAIN;
                    numbers[i] = 0;
                }
            }
        }

        /** The MINUTE of who comes last; 0 if nobody comes. */
        int latest() {
            int latest = 0;
            for (int i = 0; i < size; i++) {
                latest = Math.max(latest, minutes[i]);
            }
            return latest;
        }

        void keepBefore(int minute) {
            for (int i = size - 1; i >= 0; i--) {
                if (minutes[i] >= minute) {
                    remove(i);
                }
            }
        }

        int heads(int person) {
            return kinds[person] == GROUPED ? numbers[person] : 1;
        }
    }

    /** WORDS about who was there ahead of whom. */
    private static final class Claims {
        private static final int UNKNOWN = -1;

        final int[] ahead = new int[WORDS];
        final int[] behind = new int[WORDS];
        int size;
        /** DROPS, kept because they are dear to find. */
        private int dropped;

        void add(int one, int two) {
            if (size < WORDS) {
                ahead[size] = one;
                behind[size] = two;
                size++;
                dropped = UNKNOWN;
            }
        }

        void clear() {
            size = 0;
            dropped = 0;
        }

        void copyFrom(Claims model) {
            System.arraycopy(model.ahead, 0, ahead, 0, WORDS);
            System.arraycopy(model.behind, 0, behind, 0, WORDS);
            size = model.size;
            dropped = model.dropped;
        }

        /** One of PEOPLE goes: so do the WORDS that name it, and those behind it go one down. */
        void forget(int person) {
            int left = 0;
            for (int i = 0; i < size; i++) {
                if (ahead[i] != person && behind[i] != person) {
                    ahead[left] = ahead[i] > person ? ahead[i] - 1 : ahead[i];
                    behind[left] = behind[i] > person ? behind[i] - 1 : behind[i];
                    left++;
                }
            }
            size = left;
            dropped = UNKNOWN;
        }

        int fewestFalse() {
            if (dropped == UNKNOWN) {
                dropped = findFewestFalse();
            }
            return dropped;
        }

        /** The WORDS but DROPS. */
        int held() {
            return ((1 << size) - 1) & ~fewestFalse();
        }

        /** Those that by some held WORD stand behind one of a set of people. */
        int behindOthers(int held, int people) {
            int set = 0;
            for (int i = 0; i < size; i++) {
                if (((held >> i) & 1) != 0 && ((people >> ahead[i]) & 1) != 0) {
                    set |= 1 << behind[i];
                }
            }
            return set;
        }

        private int findFewestFalse() {
            int all = (1 << size) - 1;
            int best = all;
            int fewest = size + 1;
            // Sets come by their size as numbers: of as many WORDS the least set is met first.
            for (int set = 0; set <= all && fewest > 0; set++) {
                if (Integer.bitCount(set) < fewest && canBeTrue(all & ~set)) {
                    best = set;
                    fewest = Integer.bitCount(set);
                }
            }
            return best;
        }

        /** Whether these WORDS can be TRUE together: row by row, who is behind nobody left steps away. */
        private boolean canBeTrue(int held) {
            int left = (1 << PEOPLE) - 1;
            for (int row = 0; row < PEOPLE && left != 0; row++) {
                left &= behindOthers(held, left);
            }
            return left == 0;
        }
    }

    /** ORDERS of some people, counted by the sets that may stand in front. */
    private static final class Orders {
        final int[] members = new int[MOST_ORDERED];
        final int[] needed = new int[MOST_ORDERED];
        final int[] ways = new int[1 << MOST_ORDERED];

        int countOf(int people, Claims claims) {
            int size = choose(people);
            int held = claims.held();
            for (int i = 0; i < size; i++) {
                needed[i] = neededAhead(i, size, held, claims);
            }
            int all = (1 << size) - 1;
            ways[0] = 1;
            for (int set = 1; set <= all; set++) {
                int sum = 0;
                for (int i = 0; i < size; i++) {
                    int rest = set & ~(1 << i);
                    if (rest != set && (needed[i] & ~rest) == 0) {
                        sum += ways[rest];
                    }
                }
                ways[set] = sum;
            }
            return ways[all];
        }

        private int choose(int people) {
            int size = 0;
            for (int person = 0; person < PEOPLE && size < MOST_ORDERED; person++) {
                if (((people >> person) & 1) != 0) {
                    members[size] = person;
                    size++;
                }
            }
            return size;
        }

        private int neededAhead(int member, int size, int held, Claims claims) {
            int set = 0;
            for (int i = 0; i < size; i++) {
                if (((claims.behindOthers(held, 1 << members[i]) >> members[member]) & 1) != 0) {
                    set |= 1 << i;
                }
            }
            return set;
        }
    }

    /** THE DAY of a room, MINUTE by MINUTE. */
    private static final class Day {
        final Room room = new Room();
        final int[] fates = new int[PEOPLE];
        final int[] waits = new int[PEOPLE];
        final int[] begins = new int[PEOPLE];
        final int[] cutters = new int[PEOPLE];
        final int[] lengths = new int[PEOPLE];
        final int[] heads = new int[PEOPLE];
        final int[] places = new int[PEOPLE];
        /** People by when they come. */
        final int[] line = new int[PEOPLE];
        final int[] freeFrom = new int[CUTTERS];
        int come;
        int waiting;
        int waitingHeads;
        int quarrels;
        int missing;
        boolean isStale = true;

        /** Plays the day without a cutter (NOBODY: with all). */
        void play(int without) {
            missing = without;
            prepare();
            for (int minute = 0; minute < MINUTES; minute++) {
                letIn(minute);
                if (waiting > 0) {
                    moveAbout(minute);
                    serve(minute);
                }
            }
            for (int i = 0; i < room.guests.size; i++) {
                if (fates[i] == WAITING) {
                    waits[i] = MINUTES - room.guests.minutes[i];
                }
            }
        }

        private void prepare() {
            come = 0;
            waiting = 0;
            waitingHeads = 0;
            quarrels = 0;
            for (int cutter = 0; cutter < CUTTERS; cutter++) {
                freeFrom[cutter] = 0;
            }
            for (int i = 0; i < room.guests.size; i++) {
                fates[i] = 0;
                waits[i] = 0;
                begins[i] = NONE;
                cutters[i] = NONE;
                lengths[i] = 0;
                heads[i] = room.guests.heads(i);
                places[i] = room.guests.kinds[i] == LISTED ? room.guests.numbers[i] : room.guests.minutes[i];
                putInLine(i);
            }
        }

        private void putInLine(int person) {
            int[] minutes = room.guests.minutes;
            int spot = person;
            while (spot > 0 && minutes[line[spot - 1]] > minutes[person]) {
                line[spot] = line[spot - 1];
                spot--;
            }
            line[spot] = person;
        }

        private void letIn(int minute) {
            int[] settings = room.shop.settings;
            while (come < room.guests.size && room.guests.minutes[line[come]] == minute) {
                int person = line[come];
                come++;
                boolean isTooFull = waitingHeads + heads[person] > settings[SEATS];
                boolean isTooLong = settings[GUESS] * waiting / 2 > settings[PATIENCE];
                if (isTooFull || isTooLong) {
                    fates[person] = TURNED;
                } else {
                    fates[person] = WAITING;
                    waiting++;
                    waitingHeads += heads[person];
                }
            }
        }

        private void moveAbout(int minute) {
            for (int i = 0; i < room.guests.size; i++) {
                if (fates[i] != WAITING) {
                    continue;
                }
                int kind = room.guests.kinds[i];
                int since = minute - room.guests.minutes[i];
                int number = room.guests.numbers[i];
                if (kind == TIRED && since >= number) {
                    leaveBench(i, GONE, minute);
                } else if (kind == OUT && since == OUT_AFTER + number && room.shop.settings[KEEPS] == 0) {
                    places[i] = minute;
                }
            }
        }

        private void leaveBench(int person, int fate, int minute) {
            fates[person] = fate;
            waits[person] = minute - room.guests.minutes[person];
            waiting--;
            waitingHeads -= heads[person];
        }

        private void serve(int minute) {
            int[] settings = room.shop.settings;
            for (int cutter = 0; cutter < CUTTERS; cutter++) {
                boolean isFree = freeFrom[cutter] <= minute && cutter != missing;
                if (isFree && (cutter < 2 || waiting >= settings[THIRD])) {
                    int next = leader(cutter, minute, settings[RULE]);
                    if (next != NOBODY && isBeaten(next, cutter, minute, settings[RULE])) {
                        quarrels++;
                        next = leader(cutter, minute, BY_PLACE);
                    }
                    if (next != NOBODY) {
                        begin(next, cutter, minute);
                    }
                }
            }
        }

        private void begin(int person, int cutter, int minute) {
            leaveBench(person, CUT, minute);
            begins[person] = minute;
            cutters[person] = cutter;
            lengths[person] = lengthOf(person, cutter);
            freeFrom[cutter] = minute + lengths[person] + room.shop.settings[REST];
        }

        /** Who is left when each is held against the next: the first of all, if there is one. */
        private int leader(int cutter, int minute, int rule) {
            int leader = NOBODY;
            for (int i = 0; i < room.guests.size; i++) {
                if (waitsFor(i, cutter, minute) && (leader == NOBODY || goesBefore(i, leader, cutter, rule))) {
                    leader = i;
                }
            }
            return leader;
        }

        /** Only in a ring: whom no other one goes before is left as the leader, and never beaten. */
        private boolean isBeaten(int leader, int cutter, int minute, int rule) {
            // The other rules put all in one order, which has no rings.
            for (int i = 0; i < room.guests.size && rule == BY_MANNERS; i++) {
                if (i != leader && waitsFor(i, cutter, minute) && goesBefore(i, leader, cutter, rule)) {
                    return true;
                }
            }
            return false;
        }

        private boolean waitsFor(int person, int cutter, int minute) {
            if (fates[person] != WAITING || isOut(person, minute)) {
                return false;
            }
            return room.guests.kinds[person] != CHOOSING || room.guests.numbers[person] == cutter;
        }

        private boolean isOut(int person, int minute) {
            int since = minute - room.guests.minutes[person] - OUT_AFTER;
            return room.guests.kinds[person] == OUT && since >= 0 && since < room.guests.numbers[person];
        }

        private boolean goesBefore(int one, int two, int cutter, int rule) {
            if (rule == BY_MANNERS) {
                int kind = room.guests.kinds[one];
                int against = room.guests.kinds[two];
                boolean goesOver = room.habits.goOver(kind, against);
                if (goesOver != room.habits.goOver(against, kind)) {
                    return goesOver;
                }
            } else if (rule == BY_SHORTER) {
                int gap = lengthOf(one, cutter) - lengthOf(two, cutter);
                if (gap != 0) {
                    return gap < 0;
                }
            }
            return places[one] < places[two] || (places[one] == places[two] && one < two);
        }

        private int lengthOf(int person, int cutter) {
            int need = room.shop.needs[cutter * SORTS + room.guests.sorts[person]];
            int talk = room.guests.kinds[person] == CHOOSING ? room.shop.settings[TALK] : 0;
            return need * heads[person] + talk;
        }

        int coin() {
            int coin = 0;
            for (int i = 0; i < room.guests.size; i++) {
                if (fates[i] == CUT) {
                    coin += room.shop.prices[room.guests.sorts[i]] * heads[i];
                }
            }
            return coin;
        }

        int waitsTogether() {
            int sum = 0;
            for (int i = 0; i < room.guests.size; i++) {
                sum += waits[i];
            }
            return sum;
        }

        int longestWait() {
            int most = 0;
            for (int i = 0; i < room.guests.size; i++) {
                most = Math.max(most, waits[i]);
            }
            return most;
        }

        int ofFate(int fate) {
            int number = 0;
            for (int i = 0; i < room.guests.size; i++) {
                number += fates[i] == fate ? 1 : 0;
            }
            return number;
        }

        int minutesOfThird() {
            int sum = 0;
            for (int i = 0; i < room.guests.size; i++) {
                if (cutters[i] == 2) {
                    sum += Math.min(lengths[i], MINUTES - begins[i]);
                }
            }
            return sum;
        }

        int liedTo(int time) {
            int lied = 0;
            for (int i = 0; i < room.guests.size; i++) {
                boolean isOff = Math.abs(waits[i] - time) > LIE;
                lied += fates[i] != TURNED && isOff ? 1 : 0;
            }
            return lied;
        }

        boolean isOverBy(int minute) {
            for (int i = 0; i < room.guests.size; i++) {
                boolean isLate = fates[i] == CUT && begins[i] + lengths[i] > minute;
                if (isLate || fates[i] == WAITING) {
                    return false;
                }
            }
            return true;
        }

        /** Whether one waits behind all that happens in a MINUTE, when the day has been played. */
        private boolean isWaitingAt(int person, int minute) {
            int since = minute - room.guests.minutes[person];
            return fates[person] != TURNED && since >= 0 && since < waits[person];
        }

        int waitingAt(int minute) {
            int number = 0;
            for (int i = 0; i < room.guests.size; i++) {
                number += isWaitingAt(i, minute) ? 1 : 0;
            }
            return number;
        }

        int seatedAt(int minute) {
            int number = 0;
            for (int i = 0; i < room.guests.size; i++) {
                number += isWaitingAt(i, minute) && !isOut(i, minute) ? heads[i] : 0;
            }
            return number;
        }

        int underCutter(int cutter, int minute) {
            for (int i = 0; i < room.guests.size; i++) {
                int since = minute - begins[i];
                if (cutters[i] == cutter && since >= 0 && since < lengths[i]) {
                    return i;
                }
            }
            return NONE;
        }
    }

    /** THE TAPE, and the reading of texts from it. */
    private static final class Tape {
        private static final int END = -1;
        private static final int NO_NUMBER = -1;
        private static final int BLANK = 32;
        private static final int LAST_SIGN = 126;
        /** Above all that a number may be; what is read stops here, so that no figures run over. */
        private static final int TOO_MUCH = 1000;

        final int[] bytes = new int[TAPE];
        int length;
        private int spot;

        static boolean areSigns(long w, int n) {
            for (int i = 0; i < n; i++) {
                int sign = (int) ((w >>> (8 * i)) & 255L);
                if (sign < BLANK || sign > LAST_SIGN) {
                    return false;
                }
            }
            return true;
        }

        void add(long w, int n) {
            for (int i = n - 1; i >= 0 && length < TAPE; i--) {
                bytes[length] = (int) ((w >>> (8 * i)) & 255L);
                length++;
            }
        }

        /** How many MANNERS the text tells, or its FAULT. */
        int readHabits(Habits into) {
            spot = 0;
            for (int told = 1; told <= TEXT_PARTS; told++) {
                int kind = kindOf(peek());
                if (kind == NOBODY) {
                    return faultAt(spot);
                }
                spot++;
                int behind = kindOf(peek());
                if (behind == NOBODY || behind == kind) {
                    return faultAt(spot);
                }
                spot++;
                into.add(kind, behind);
                if (peek() == END) {
                    return told;
                }
                if (peek() != ',' || told == TEXT_PARTS) {
                    return faultAt(spot);
                }
                spot++;
            }
            return faultAt(spot);
        }

        /** How many PEOPLE the text tells, or its FAULT. */
        int readGuests(Guests into) {
            spot = 0;
            for (int told = 1; told <= TEXT_PARTS; told++) {
                int fault = readGuest(into);
                if (fault != 0) {
                    return fault;
                }
                if (peek() == END) {
                    return told;
                }
                if (peek() != ';' || told == TEXT_PARTS) {
                    return faultAt(spot);
                }
                spot++;
            }
            return faultAt(spot);
        }

        /** 0, or the FAULT. */
        private int readGuest(Guests into) {
            peek();
            int start = spot;
            int minute = readNumber();
            if (minute < 0 || minute >= MINUTES) {
                return faultAt(start);
            }
            int kind = kindOf(peek());
            if (kind == NOBODY) {
                return faultAt(spot);
            }
            spot++;
            int sort = peek() - '0';
            if (!isBelow(sort, SORTS)) {
                return faultAt(spot);
            }
            spot++;
            int number = 0;
            if (kind != PLAIN) {
                if (peek() != ':') {
                    return faultAt(spot);
                }
                spot++;
                peek();
                start = spot;
                number = readNumber();
                if (!areLegal(minute, kind, sort, number)) {
                    return faultAt(start);
                }
            }
            into.add(minute, kind, sort, number);
            return 0;
        }

        /** The number that begins here; below 0, if none does. */
        private int readNumber() {
            int value = NO_NUMBER;
            while (spot < length && bytes[spot] >= '0' && bytes[spot] <= '9') {
                value = Math.min(Math.max(value, 0) * 10 + bytes[spot] - '0', TOO_MUCH);
                spot++;
            }
            return value;
        }

        /** The next byte that is no blank, from the spot on, which goes there. */
        private int peek() {
            while (spot < length && bytes[spot] == BLANK) {
                spot++;
            }
            return spot < length ? bytes[spot] : END;
        }

        private static int faultAt(int place) {
            return FAULT - place;
        }

        private static int kindOf(int letter) {
            switch (letter) {
                case 'p': return PLAIN;
                case 'c': return CHOOSING;
                case 'g': return GROUPED;
                case 'o': return OUT;
                case 'l': return LISTED;
                case 't': return TIRED;
                default: return NOBODY;
            }
        }
    }

    /** SHEETS: rows of items, each with the LANE that it was made for. */
    private static final class Sheets {
        static final int NOTHING = -1;
        private static final int BYTES = 0, SHORTS = 1;

        final int[] lanes = {NOTHING, NOTHING, NOTHING, NOTHING};
        final int[] sizes = new int[SHEETS];
        private final int[] items = new int[SHEETS * ITEMS];

        void renew(int sheet, int lane, int size) {
            lanes[sheet] = lane;
            sizes[sheet] = size;
            for (int i = 0; i < ITEMS; i++) {
                items[sheet * ITEMS + i] = 0;
            }
        }

        /** Why n items of a SHEET, from one on, can't be had as a LANE's; 0 if they can. */
        int refusal(int sheet, int lane, int from, int n) {
            if (lanes[sheet] == NOTHING) {
                return NULL;
            }
            if (lanes[sheet] != lane) {
                return CAST;
            }
            return from < 0 || from > sizes[sheet] - n ? INDEX : 0;
        }

        int read(int sheet, int i) {
            return items[sheet * ITEMS + i];
        }

        void write(int sheet, int i, int v) {
            int kept = v;
            if (lanes[sheet] == BYTES) {
                kept = (byte) v;
            } else if (lanes[sheet] == SHORTS) {
                kept = (short) v;
            }
            items[sheet * ITEMS + i] = kept;
        }
    }
}
