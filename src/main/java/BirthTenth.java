/**
 * A tenth to whose birthday it is: people sell once in a year of twelve days and put it off, and a
 * part of what is taken in on a day goes to those who are born on it.
 *
 * <p>All what-ifs are tried on a copy of the state ({@code trial}), by days that change no state
 * ({@link Days}); so a call makes no object, and what is asked changes nothing.
 */
public final class BirthTenth {
    public static final int NONE = -1, BAD = -2, STATE = -3, FULL = -4;
    public static final long NO = Long.MIN_VALUE;

    private static final int NOT_ANY = -5, CROWDED = -9, FAULT_BASE = -10;
    private static final int NOTHING = -11, CAST = -12, PLACE = -13, SIZE = -14;
    // Where pence are answered, the refusals lie below all that can be pence.
    private static final int FAR_NONE = -10000001, FAR_BAD = -10000002;

    private static final int DAYS = 12, PEOPLE = 7, KINDS = 7, VALUES = 10, PARTS = 4;
    private static final int LAST_YEAR = 999, FARTHEST = 60, MOST_CHANGES = 8, DUES_END = 100, DUES_STEP = 5;
    private static final int MOST_FORGED = 10000, MOST_SLIP = 99;
    private static final int TEXT_MOST = 100, SIGNS = 128, TOWNS = 6, CLAUSES = 10, WITHIN = 4;
    private static final int BOOK_MOST = 12, ROW_MOST = 9999, BOOK_EMPTIED = -10000;
    private static final int TAPES = 6, TAPE_MOST = 60, TRACE_MOST = 20, CUT_SHORT = 100;
    private static final int HOLDS_NOTHING = -1, BYTES = 0, SHORTS = 1, INTS = 2, LONGS = 3, BOOLEANS = 4;

    private static final int SELLER = 0, HATER = 1, COUSIN = 2, LATE = 3, SHUNNING = 4, FOND = 5, TOLD = 6;
    private static final int[] ABOVE = {-1, SELLER, SELLER, SELLER, HATER, COUSIN, LATE};

    private final State now;
    private final State kept;
    private final State trial;
    private boolean isKept;
    private final Days days;
    private final int[] yields = new int[DAYS];
    private final Text text = new Text();
    private final Town[] towns = new Town[TOWNS];
    private int townCount;
    private final Acts acts = new Acts();
    private final Tape[] tapes = new Tape[TAPES];

    public BirthTenth() {
        Town plain = new Town();
        now = new State(plain);
        kept = new State(plain);
        trial = new State(plain);
        days = new Days(now);
        for (int i = 0; i < TOWNS; i++) {
            towns[i] = new Town();
        }
        for (int i = 0; i < TAPES; i++) {
            tapes[i] = new Tape();
        }
    }

    // ---- people, towns

    public int person(int kind, int v, int born, int plan) {
        if (kind < 0 || kind >= KINDS) {
            return NONE;
        }
        if (v < 0 || v >= VALUES || !isDay(born) || !isDay(plan)) {
            return BAD;
        }
        if (now.count >= PEOPLE) {
            return FULL;
        }
        now.add(kind, v, born, plan);
        return now.count - 1;
    }

    public int of(int person, int what) {
        if (!isPerson(person)) {
            return FAR_NONE;
        }
        days.start(now, now.town.due);
        int sellsOn = days.sellsOn[person];
        switch (what) {
            case 0: return now.kind[person];
            case 1: return now.v[person];
            case 2: return now.born[person];
            case 3: return now.plan[person];
            case 4: return now.here[person] ? 1 : 0;
            case 5: return sellsOn;
            case 6: return days.putOff(person);
            case 7: return days.takes(person, sellsOn);
            case 8: return now.purse[person];
            default: return FAR_NONE;
        }
    }

    public int set(int person, int what, int n) {
        if (!isPerson(person) || what < 0 || what > 1) {
            return NONE;
        }
        if (!isDay(n)) {
            return BAD;
        }
        int[] row = what == 0 ? now.born : now.plan;
        int was = row[person];
        row[person] = n;
        return was;
    }

    public int there(int person, boolean is) {
        if (!isPerson(person)) {
            return NONE;
        }
        boolean was = now.here[person];
        now.here[person] = is;
        return was ? 1 : 0;
    }

    public int row(int person, int part, int n) {
        if (!isPerson(person) || part < 0 || part >= PARTS) {
            return NONE;
        }
        if (!isDay(n)) {
            return BAD;
        }
        if (now.kind[person] != TOLD) {
            return STATE;
        }
        int place = person * PARTS + part;
        int was = now.rows[place];
        now.rows[place] = n;
        return was;
    }

    public int feed(int sign) {
        if (sign < 0 || sign >= SIGNS) {
            return BAD;
        }
        if (text.length >= TEXT_MOST) {
            return FULL;
        }
        text.signs[text.length] = (byte) sign;
        text.length++;
        return text.length;
    }

    public int town() {
        if (townCount >= TOWNS) {
            return FULL;
        }
        Town next = towns[townCount];
        boolean fits = text.parse(next);
        text.length = 0;
        if (!fits) {
            return FAULT_BASE - text.at;
        }
        now.town = next;
        townCount++;
        return townCount - 1;
    }

    public int told(int what) {
        if (what >= 10 && what < 10 + DAYS) {
            return bornOn(what - 10);
        }
        if (what >= 30 && what < 30 + DAYS) {
            return sellingOn(what - 30);
        }
        switch (what) {
            case 0: return now.town.due;
            case 1: return now.town.cost;
            case 2: return now.town.feast;
            case 3: return now.date;
            case 4: return now.year;
            case 5: return allPurses();
            default: return FAR_NONE;
        }
    }

    // ---- days

    public int day() {
        if (now.date == DAYS - 1 && now.year >= LAST_YEAR) {
            return STATE;
        }
        days.start(now, now.town.due);
        days.go(1);
        for (int p = 0; p < now.count; p++) {
            now.purse[p] += days.gain[p];
        }
        now.date = days.date;
        now.year = days.year;
        return days.dues;
    }

    public int by(int person, int n, int what) {
        if (!isPerson(person) || what < 0 || what > 1) {
            return FAR_NONE;
        }
        if (n < 0 || n > FARTHEST) {
            return FAR_BAD;
        }
        days.start(now, now.town.due);
        days.go(n);
        return what == 0 ? now.purse[person] + days.gain[person] : days.came[person];
    }

    public int years(int person) {
        if (!isPerson(person)) {
            return FAR_NONE;
        }
        goYear(now, now.town.due);
        return days.gain[person];
    }

    // ---- what is best

    public int birth(int person, int what) {
        if (!isPerson(person) || what < 0 || what > 1) {
            return FAR_NONE;
        }
        trial.copy(now);
        return bestOf(trial.born, person, what);
    }

    public int plan(int person, int what) {
        if (!isPerson(person) || what < 0 || what > 1) {
            return FAR_NONE;
        }
        trial.copy(now);
        return bestOf(trial.plan, person, what);
    }

    public int quiet() {
        days.start(now, now.town.due);
        int quiet = (1 << DAYS) - 1;
        for (int p = 0; p < now.count; p++) {
            if (now.here[p]) {
                quiet &= ~(1 << days.sellsOn[p]);
            }
        }
        return quiet;
    }

    public int foundling(int plan, int what) {
        if (what < 0 || what > 1) {
            return FAR_NONE;
        }
        if (!isDay(plan)) {
            return FAR_BAD;
        }
        if (now.count >= PEOPLE) {
            return CROWDED;
        }
        trial.copy(now);
        trial.add(SELLER, 0, 0, plan);
        return bestOf(trial.born, trial.count - 1, what);
    }

    public int forged(int pence) {
        if (pence < 0 || pence > MOST_FORGED) {
            return BAD;
        }
        trial.copy(now);
        for (int p = 0; p < now.count; p++) {
            tryDays(trial.born, p, now.town.due);
            for (int d = 0; d < DAYS; d++) {
                if (d != now.born[p] && yields[d] == pence) {
                    return 100 * p + d;
                }
            }
        }
        return NOT_ANY;
    }

    public int change(int person) {
        if (!isPerson(person)) {
            return NONE;
        }
        trial.copy(now);
        return betterPlan(person, now.town.due) != now.plan[person] ? 1 : 0;
    }

    public int rest(int what) {
        if (what != 0 && (what < 10 || what - 10 >= now.count)) {
            return NONE;
        }
        int changes = 0;
        boolean isQuiet = false;
        trial.copy(now);
        // Each round ahead of the quiet one has a change, so there are no more rounds than that.
        for (int round = 0; round <= MOST_CHANGES && !isQuiet; round++) {
            isQuiet = true;
            for (int p = 0; p < trial.count; p++) {
                int better = trial.here[p] ? betterPlan(p, trial.town.due) : trial.plan[p];
                if (better != trial.plan[p]) {
                    trial.plan[p] = better;
                    changes++;
                    isQuiet = false;
                }
            }
        }
        if (changes > MOST_CHANGES) {
            return NOT_ANY;
        }
        return what == 0 ? changes : trial.plan[what - 10];
    }

    public int reckoning(int n) {
        if (!isDay(n)) {
            return FAR_BAD;
        }
        goYear(now, now.town.due);
        int before = gainOfOthers(now, NONE);
        trial.copy(now);
        for (int p = 0; p < trial.count; p++) {
            trial.plan[p] = (trial.plan[p] + n) % DAYS;
        }
        goYear(trial, trial.town.due);
        return gainOfOthers(trial, NONE) - before;
    }

    public int high(int person) {
        if (!isPerson(person)) {
            return NONE;
        }
        trial.copy(now);
        for (int due = 0; due < DUES_END; due += DUES_STEP) {
            if (betterPlan(person, due) != now.plan[person]) {
                return due;
            }
        }
        return NOT_ANY;
    }

    public int last(int person) {
        if (!isPerson(person)) {
            return FAR_NONE;
        }
        goYear(now, now.town.due);
        int with = gainOfOthers(now, person);
        trial.copy(now);
        trial.here[person] = false;
        goYear(trial, trial.town.due);
        return with - gainOfOthers(trial, person);
    }

    // ---- odds, means, books

    public long odds(int person, int day, int part) {
        if (!isPerson(person) || !isDay(day)) {
            return NO;
        }
        trial.copy(now);
        tryDays(trial.born, person, now.town.due);
        int asMuch = 0;
        for (int d = 0; d < DAYS; d++) {
            if (yields[d] >= yields[day]) {
                asMuch++;
            }
        }
        return fraction(asMuch, DAYS, part);
    }

    public long mean(int part) {
        int heads = 0;
        for (int p = 0; p < now.count; p++) {
            if (now.here[p]) {
                heads++;
            }
        }
        goYear(now, now.town.due);
        return fraction(gainOfOthers(now, NONE), heads, part);
    }

    public int book(int pence) {
        if (pence == BOOK_EMPTIED) {
            now.bookRows = 0;
            return 0;
        }
        if (pence < -ROW_MOST || pence > ROW_MOST) {
            return BAD;
        }
        if (now.bookRows >= BOOK_MOST) {
            return FULL;
        }
        now.book[now.bookRows] = pence;
        now.bookRows++;
        return now.bookRows;
    }

    public int looked(int n) {
        if (n < 0 || n > MOST_SLIP) {
            return BAD;
        }
        if (now.count == 0) {
            return STATE;
        }
        days.start(now, now.town.due);
        for (int i = 0; i < now.bookRows; i++) {
            days.go(1);
            if (Math.abs(now.book[i] - now.purse[0] - days.gain[0]) > n) {
                return i;
            }
        }
        return NOT_ANY;
    }

    // ---- judging, the image, acts, tapes

    public int judge(int tape, int i) {
        if (!isTape(tape)) {
            return NONE;
        }
        Tape told = tapes[tape];
        if (told.sort != HOLDS_NOTHING && told.sort != LONGS) {
            return CAST;
        }
        for (int p = 0; p < now.count; p++) {
            // Not i + p: that wraps for the highest places.
            if (i < 0 || i >= told.length - p) {
                return CUT_SHORT + p;
            }
            if (told.items[i + p] != now.purse[p]) {
                return p;
            }
        }
        return NOT_ANY;
    }

    public int image() {
        kept.copy(now);
        isKept = true;
        return kept.count;
    }

    public int undo() {
        if (!isKept) {
            return STATE;
        }
        now.copy(kept);
        return now.count;
    }

    public int act(int person, int act, int x) {
        acts.ran = 0;
        if (!isPerson(person)) {
            return 0;
        }
        acts.becomes(person, now.kind[person], now.v[person]);
        return acts.answer(act, x);
    }

    public int trace(int i) {
        return i < 0 || i >= acts.ran || i >= TRACE_MOST ? NONE : acts.bodies[i];
    }

    public int taken(int person, int k) {
        if (k < 0 || k >= KINDS) {
            return BAD;
        }
        if (!isPerson(person)) {
            return NOTHING;
        }
        int kind = now.kind[person];
        // No KIND lies deeper than two below SELLER.
        boolean isOne = kind == k || ABOVE[kind] == k || k == SELLER;
        return isOne ? kind : CAST;
    }

    public int count(int what) {
        switch (what) {
            case 0: return now.count;
            case 1: return townCount;
            case 2: return now.bookRows;
            case 3: return text.length;
            case 4: return acts.ran;
            default: return BAD;
        }
    }

    public int tape(int tape, int sort, int n) {
        if (!isTape(tape)) {
            return NONE;
        }
        if (sort == HOLDS_NOTHING) {
            tapes[tape].become(HOLDS_NOTHING, 0);
            return 1;
        }
        if (sort < BYTES || sort > BOOLEANS || n > TAPE_MOST) {
            return BAD;
        }
        if (n < 0) {
            return SIZE;
        }
        tapes[tape].become(sort, n);
        return 1;
    }

    public int item(int tape, int i, long v) {
        if (!isTape(tape)) {
            return NONE;
        }
        Tape row = tapes[tape];
        if (row.sort == HOLDS_NOTHING) {
            return NOTHING;
        }
        if (i < 0 || i >= row.length) {
            return PLACE;
        }
        row.items[i] = row.fitted(v);
        return 1;
    }

    public long read(int tape, int i) {
        if (!isTape(tape)) {
            return NO;
        }
        Tape row = tapes[tape];
        // What holds nothing has length 0.
        return i < 0 || i >= row.length ? NO : row.items[i];
    }

    public int shift(int tape, int i, int other, int j, int n) {
        if (!isTape(tape) || !isTape(other)) {
            return NONE;
        }
        Tape from = tapes[tape];
        Tape to = tapes[other];
        if (from.sort == HOLDS_NOTHING || to.sort == HOLDS_NOTHING) {
            return NOTHING;
        }
        if (from.sort != to.sort) {
            return CAST;
        }
        if (!from.holds(i, n) || !to.holds(j, n)) {
            return PLACE;
        }
        System.arraycopy(from.items, i, to.items, j, n);
        return n;
    }

    // ---- what the calls share

    private static boolean isDay(int n) {
        return n >= 0 && n < DAYS;
    }

    private static boolean isTape(int tape) {
        return tape >= 0 && tape < TAPES;
    }

    private boolean isPerson(int person) {
        return person >= 0 && person < now.count;
    }

    private int bornOn(int day) {
        int bits = 0;
        for (int p = 0; p < now.count; p++) {
            if (now.here[p] && now.born[p] == day) {
                bits |= 1 << p;
            }
        }
        return bits;
    }

    private int sellingOn(int day) {
        days.start(now, now.town.due);
        int bits = 0;
        for (int p = 0; p < now.count; p++) {
            if (days.sellsOn[p] == day) {
                bits |= 1 << p;
            }
        }
        return bits;
    }

    private int allPurses() {
        int sum = 0;
        for (int p = 0; p < now.count; p++) {
            sum += now.purse[p];
        }
        return sum;
    }

    private void goYear(State from, int due) {
        days.start(from, due);
        days.go(DAYS);
    }

    /** What the days that have gone brought to all that are there but one (NONE: to all). */
    private int gainOfOthers(State of, int one) {
        int sum = 0;
        for (int p = 0; p < of.count; p++) {
            if (p != one && of.here[p]) {
                sum += days.gain[p];
            }
        }
        return sum;
    }

    /** Leaves in yields what a year brings to one for each DAY in its place of a row of the trial. */
    private void tryDays(int[] row, int person, int due) {
        int was = row[person];
        for (int d = 0; d < DAYS; d++) {
            row[person] = d;
            days.start(trial, due);
            days.go(DAYS);
            yields[d] = days.gain[person];
        }
        row[person] = was;
    }

    private int firstMost() {
        int best = 0;
        for (int d = 1; d < DAYS; d++) {
            if (yields[d] > yields[best]) {
                best = d;
            }
        }
        return best;
    }

    private int bestOf(int[] row, int person, int what) {
        tryDays(row, person, trial.town.due);
        int best = firstMost();
        return what == 0 ? best : yields[best];
    }

    /** The BEST PLAN of one in the trial if it brings more than its PLAN, else its PLAN. */
    private int betterPlan(int person, int due) {
        tryDays(trial.plan, person, due);
        int best = firstMost();
        int plan = trial.plan[person];
        return yields[best] > yields[plan] ? best : plan;
    }

    /** A part of a fraction in lowest terms; there is none below a line of 0. */
    private static long fraction(int above, int below, int part) {
        if (below <= 0 || part < 0 || part > 1) {
            return NO;
        }
        int common = below;
        while (common > 1 && (above % common != 0 || below % common != 0)) {
            common--;
        }
        return (part == 0 ? above : below) / common;
    }

    /** All that THE IMAGE holds. */
    private static final class State {
        int count;
        int date;
        int year;
        int bookRows;
        Town town;
        final int[] kind = new int[PEOPLE];
        final int[] v = new int[PEOPLE];
        final int[] born = new int[PEOPLE];
        final int[] plan = new int[PEOPLE];
        final int[] purse = new int[PEOPLE];
        final boolean[] here = new boolean[PEOPLE];
        final int[] rows = new int[PEOPLE * PARTS];
        final int[] book = new int[BOOK_MOST];

        State(Town plain) {
            town = plain;
        }

        void add(int itsKind, int itsV, int itsBorn, int itsPlan) {
            if (count >= PEOPLE) {
                return;
            }
            kind[count] = itsKind;
            v[count] = itsV;
            born[count] = itsBorn;
            plan[count] = itsPlan;
            purse[count] = 0;
            here[count] = true;
            for (int part = 0; part < PARTS; part++) {
                rows[count * PARTS + part] = 0;
            }
            count++;
        }

        void copy(State other) {
            count = other.count;
            date = other.date;
            year = other.year;
            bookRows = other.bookRows;
            town = other.town;
            System.arraycopy(other.kind, 0, kind, 0, PEOPLE);
            System.arraycopy(other.v, 0, v, 0, PEOPLE);
            System.arraycopy(other.born, 0, born, 0, PEOPLE);
            System.arraycopy(other.plan, 0, plan, 0, PEOPLE);
            System.arraycopy(other.purse, 0, purse, 0, PEOPLE);
            System.arraycopy(other.rows, 0, rows, 0, PEOPLE * PARTS);
            System.arraycopy(other.book, 0, book, 0, BOOK_MOST);
            for (int p = 0; p < PEOPLE; p++) {
                here[p] = other.here[p];
            }
        }
    }

    /** Days that go from a state on and leave it as it is: what they bring to each. */
    private static final class Days {
        private State state;
        private int due;
        int date;
        int year;
        int dues;
        final int[] gain = new int[PEOPLE];
        final int[] came = new int[PEOPLE];
        final int[] sellsOn = new int[PEOPLE];
        private final int[] births = new int[DAYS];

        Days(State first) {
            state = first;
        }

        void start(State from, int itsDue) {
            state = from;
            due = itsDue;
            date = from.date;
            year = from.year;
            for (int d = 0; d < DAYS; d++) {
                births[d] = 0;
            }
            for (int p = 0; p < from.count; p++) {
                gain[p] = 0;
                came[p] = 0;
                if (from.here[p]) {
                    births[from.born[p]]++;
                }
            }
            beginYear();
        }

        void go(int n) {
            for (int i = 0; i < n; i++) {
                sell();
                share();
                date++;
                if (date >= DAYS) {
                    date = 0;
                    year++;
                    beginYear();
                }
            }
        }

        private void sell() {
            dues = 0;
            for (int p = 0; p < state.count; p++) {
                if (state.here[p] && sellsOn[p] == date) {
                    int takes = takes(p, date);
                    int pays = births[date] > 0 ? takes * due / 100 : 0;
                    gain[p] += takes - state.town.cost * putOff(p) - pays;
                    dues += pays;
                }
            }
        }

        private void share() {
            int heirs = births[date];
            if (heirs == 0) {
                return;
            }
            int each = dues / heirs;
            int odd = dues % heirs;
            for (int p = 0; p < state.count; p++) {
                if (state.here[p] && state.born[p] == date) {
                    gain[p] += each + odd;
                    came[p] += each + odd;
                    odd = 0;
                }
            }
        }

        /** Who SELLS on which DAY stands still within a YEAR, so it is found once for each. */
        private void beginYear() {
            for (int p = 0; p < state.count; p++) {
                int day = wanted(p);
                sellsOn[p] = day == state.town.feast ? (day + 1) % DAYS : day;
            }
        }

        /** The DAY on which one SELLS before the feast is looked at. */
        private int wanted(int p) {
            int plan = state.plan[p];
            int thatOne = state.count > 0 ? state.v[p] % state.count : 0;
            int itsBorn = state.born[thatOne];
            switch (state.kind[p]) {
                case HATER: return freeDay(plan, itsBorn, PEOPLE + 1);
                case COUSIN: return itsBorn;
                case LATE: return (plan + state.v[p]) % DAYS;
                case SHUNNING:
                    int free = freeDay(plan, itsBorn, 2);
                    return free != NONE ? free : freeDay(plan, itsBorn, PEOPLE + 1);
                case FOND: return state.here[thatOne] ? itsBorn : plan;
                case TOLD: return state.rows[p * PARTS + year % PARTS];
                default: return plan;
            }
        }

        /** The first DAY from one on that is not shunned and on which fewer than a crowd are BORN. */
        private int freeDay(int from, int shunned, int crowd) {
            for (int i = 0; i < DAYS; i++) {
                int day = (from + i) % DAYS;
                if (day != shunned && births[day] < crowd) {
                    return day;
                }
            }
            return NONE;
        }

        int putOff(int p) {
            return (sellsOn[p] - state.plan[p] + DAYS) % DAYS;
        }

        int takes(int p, int day) {
            Town town = state.town;
            if (town.takes == 0) {
                return 100;
            }
            int sum = 0;
            int from = 0;
            for (int i = 0; i < town.takes; i++) {
                if (allows(town, from, town.ends[i], p, day)) {
                    sum += town.amounts[i];
                }
                from = town.ends[i];
            }
            return 10 * sum;
        }

        /** Whether the steps of an E hold; the lowest bit of the stack is what came last. */
        private boolean allows(Town town, int from, int end, int p, int day) {
            int stack = 0;
            for (int i = from; i < end; i++) {
                int letter = town.letters[i];
                if (letter == '!') {
                    stack ^= 1;
                } else if (letter == '&') {
                    stack = stack >>> 1 & (stack | ~1);
                } else if (letter == '|') {
                    stack = stack >>> 1 | stack & 1;
                } else {
                    int is = valueOf(letter, p, day);
                    int number = town.numbers[i];
                    int relation = is < number ? '<' : is == number ? '=' : '>';
                    stack = stack << 1 | (relation == town.relations[i] ? 1 : 0);
                }
            }
            return (stack & 1) == 1;
        }

        private int valueOf(int letter, int p, int day) {
            switch (letter) {
                case 'p': return p;
                case 'k': return state.kind[p];
                case 'd': return day;
                case 'c': return births[day];
                case 'y': return year % 10;
                default: return state.born[p];
            }
        }
    }

    /** The CLAUSES of a TOWN; as made, or cleared, those of no TOWN. */
    private static final class Town {
        int due;
        int cost;
        int feast;
        int takes;
        int steps;
        /** The E of all take CLAUSES, one behind the other: TESTS, and behind what they join ! & |. */
        final int[] letters = new int[TEXT_MOST];
        final int[] relations = new int[TEXT_MOST];
        final int[] numbers = new int[TEXT_MOST];
        final int[] amounts = new int[CLAUSES];
        final int[] ends = new int[CLAUSES];

        Town() {
            clear();
        }

        void clear() {
            due = 10;
            cost = 1;
            feast = 99;
            takes = 0;
            steps = 0;
        }

        void addTest(int letter, int relation, int number) {
            if (steps < TEXT_MOST) {
                letters[steps] = letter;
                relations[steps] = relation;
                numbers[steps] = number;
                steps++;
            }
        }

        void addJoint(int sign) {
            addTest(sign, 0, 0);
        }

        /** Ends a take CLAUSE; its steps are those since the one before. */
        void addTake(int amount) {
            if (takes < CLAUSES) {
                amounts[takes] = amount;
                ends[takes] = steps;
                takes++;
            }
        }
    }

    /** THE TEXT, and how a TOWN is read from it: from the FAULT on nothing is read any more. */
    private static final class Text {
        final byte[] signs = new byte[TEXT_MOST];
        int length;
        int at;
        private boolean fits;

        /** Whether THE TEXT is a TOWN; if not, at is the FAULT, and the TOWN is of no use. */
        boolean parse(Town town) {
            town.clear();
            at = 0;
            fits = true;
            clause(town);
            for (int clauses = 1; clauses < CLAUSES && fits && at < length; clauses++) {
                word(";");
                clause(town);
            }
            return fits && at == length;
        }

        private int next() {
            return fits && at < length ? signs[at] : -1;
        }

        private void word(String word) {
            for (int i = 0; i < word.length(); i++) {
                if (next() == word.charAt(i)) {
                    at++;
                } else {
                    fits = false;
                }
            }
        }

        private int number() {
            int number = 0;
            int digits = 0;
            while (digits < 2 && next() >= '0' && next() <= '9') {
                number = 10 * number + next() - '0';
                at++;
                digits++;
            }
            if (digits == 0) {
                fits = false;
            }
            return number;
        }

        private void clause(Town town) {
            switch (next()) {
                case 't':
                    word("take ");
                    int amount = number();
                    word(" ");
                    either(town, 0);
                    town.addTake(amount);
                    break;
                case 'd':
                    word("due ");
                    town.due = number();
                    break;
                case 'c':
                    word("cost ");
                    town.cost = number();
                    break;
                case 'f':
                    word("feast ");
                    town.feast = number();
                    break;
                default:
                    fits = false;
            }
        }

        /** An E, and each T in it: what & joins goes ahead of what | joins. */
        private void either(Town town, int within) {
            one(town, within);
            boolean isJoined = false;
            for (int i = 0; i < TEXT_MOST && (next() == '&' || next() == '|'); i++) {
                int joint = next();
                at++;
                if (joint == '|' && isJoined) {
                    town.addJoint('|');
                }
                one(town, within);
                if (joint == '&') {
                    town.addJoint('&');
                } else {
                    isJoined = true;
                }
            }
            if (isJoined) {
                town.addJoint('|');
            }
        }

        /** An F. */
        private void one(Town town, int within) {
            int sign = next();
            if (isLetter(sign)) {
                at++;
                town.addTest(sign, relation(), number());
            } else if (sign != '!' && sign != '(' || within >= WITHIN) {
                fits = false;
            } else if (sign == '!') {
                at++;
                one(town, within + 1);
                town.addJoint('!');
            } else {
                at++;
                either(town, within + 1);
                word(")");
            }
        }

        private int relation() {
            int sign = next();
            if (sign == '<' || sign == '=' || sign == '>') {
                at++;
            } else {
                fits = false;
            }
            return sign;
        }

        private static boolean isLetter(int sign) {
            return sign == 'p' || sign == 'k' || sign == 'd' || sign == 'c' || sign == 'y' || sign == 'b';
        }
    }

    /**
     * The ACTS of one of the PEOPLE; each takes the KIND from which on a body is looked for. They end: a body asks for the
     * same ACT of a KIND above alone, or for one that lies nearer to sells (tells, gives, sells).
     */
    private static final class Acts {
        final int[] bodies = new int[TRACE_MOST];
        int ran;
        private int kind;
        private int number;
        private int v;

        void becomes(int itsNumber, int itsKind, int itsV) {
            number = itsNumber;
            kind = itsKind;
            v = itsV;
        }

        int answer(int act, int x) {
            switch (act) {
                case 0: return sells(kind, x);
                case 1: return gives(kind, x);
                case 2: return tells(kind, x);
                default: return 0;
            }
        }

        private void runs(int body) {
            if (ran < TRACE_MOST) {
                bodies[ran] = body;
            }
            ran++;
        }

        private int sells(int from, int x) {
            switch (from) {
                case TOLD:
                    runs(71);
                    return sells(LATE, x) ^ v;
                case SHUNNING:
                    runs(50);
                    return -sells(HATER, x);
                case FOND:
                case COUSIN:
                    runs(30);
                    return sells(SELLER, x * 3);
                default:
                    runs(10);
                    return x + number;
            }
        }

        private int gives(int from, int x) {
            switch (from) {
                case TOLD:
                    runs(70);
                    return gives(LATE, x) + sells(LATE, 2);
                case SHUNNING:
                    runs(51);
                    return gives(HATER, x + 1);
                case HATER:
                    runs(20);
                    return gives(SELLER, x) ^ 6;
                default:
                    runs(11);
                    return sells(kind, x) - v;
            }
        }

        private int tells(int from, int x) {
            switch (from) {
                case TOLD:
                case LATE:
                    runs(40);
                    return tells(SELLER, x) + gives(kind, 1);
                case FOND:
                    runs(60);
                    return tells(COUSIN, x - number);
                default:
                    runs(12);
                    return gives(kind, x) * 2;
            }
        }
    }

    /** A TAPE; the items of every sort are kept as longs, cut to what an item has. */
    private static final class Tape {
        int sort = HOLDS_NOTHING;
        int length;
        final long[] items = new long[TAPE_MOST];

        void become(int itsSort, int itsLength) {
            sort = itsSort;
            length = itsLength;
            for (int i = 0; i < TAPE_MOST; i++) {
                items[i] = 0;
            }
        }

        boolean holds(int from, int n) {
            return from >= 0 && n >= 0 && n <= length && from <= length - n;
        }

        long fitted(long value) {
            switch (sort) {
                case BYTES: return (byte) value;
                case SHORTS: return (short) value;
                case INTS: return (int) value;
                case BOOLEANS: return value != 0 ? 1 : 0;
                default: return value;
            }
        }
    }
}
