import java.util.Arrays;

/** Two valleys whose clocks go on only while somebody is heard, beside the sun. */
public final class SpokenClock {
    public static final int NONE = -1, BAD = -2, NO = -3, FULL = -4;

    /** BAD where a worth may be -2 itself. */
    private static final int BAD_WORTH = -10000;

    private static final int MINUTES = 240;
    private static final int EVERYBODY = 31;
    private static final int MOST_CLOCK = 999;

    // What a valley is told by: the settings and the rows, numbered as the items of its text are.
    private static final int FAST = 0, SONGS = 1, BED = 2, PERSON = 3, TALK = 4, DUE = 5, SIGHT = 6;
    private static final int ITEMS = 7;
    private static final int WIDEST = 3;
    private static final int[] WIDTHS = {1, 1, 1, 2, 3, 3, 2};

    // Three places an item, one for each of its numbers.
    private static final int[] LEAST = {
        1, 0, 0, 0, 0, 0, 0, 0, 0, 0, 0, 0, 0, 0, 0, 0, 0, -99, 0, 0, 0};
    private static final int[] MOST = {
        4, 0, 0, 1, 0, 0, 240, 0, 0, 5, 1, 0, 4, 239, 240, 99, 99, 99, 240, 999, 0};

    // The cells of the rows.
    private static final int KIND = 0, VALLEY = 1;
    private static final int TALKER = 0, FROM = 1, TO = 2;
    private static final int DUE_CLOCK = 0, DUE_SUN = 1, DUE_WORTH = 2;
    private static final int SIGHT_SUN = 0, SIGHT_CLOCK = 1;

    // What SILENCE is played for.
    private static final int LA = 0, LB = 1, WA = 2, WB = 3, FEE = 4;

    private final State now;
    private final State draft;
    private final Rows text;
    private final Reader reader;
    private final Rule rule;
    private final Day day;
    private final Plan plan;
    private final Guess guess;
    private final Quarrel quarrel = new Quarrel();
    private final Fraction fraction = new Fraction();
    private final State firstImage = new State();
    private final State secondImage = new State();
    private final boolean[] kept = new boolean[2];
    private final int[] refusals = new int[3];

    public SpokenClock() {
        State now = new State();
        State draft = new State();
        Rows text = new Rows(1, 250);
        Rule rule = new Rule(now);
        Day day = new Day(now, rule);
        this.reader = new Reader(text, draft);
        this.plan = new Plan(now);
        this.guess = new Guess(now, day);
        this.now = now;
        this.draft = draft;
        this.text = text;
        this.rule = rule;
        this.day = day;
    }

    // ---- valleys

    public int put(int what, int v) {
        if (what < FAST || what > BED || !now.isAsTold(what, 0, v, 0)) {
            return refuse(BAD);
        }
        int was = now.settings[what];
        now.settings[what] = v;
        changed();
        return was;
    }

    public int person(int kind, int valley) {
        return enter(PERSON, kind, valley, 0);
    }

    public int talk(int person, int from, int to) {
        return enter(TALK, person, from, to);
    }

    public int due(int clock, int sun, int worth) {
        return enter(DUE, clock, sun, worth);
    }

    public int sight(int sun, int clock) {
        return enter(SIGHT, sun, clock, 0);
    }

    public int clears(int what) {
        if (what < 0 || what > 2) {
            return refuse(BAD);
        }
        changed();
        return now.rowsOf(TALK + what).clear();
    }

    public int type(long v, int n) {
        if (n < 1 || n > 8) {
            return refuse(BAD);
        }
        if (text.size() + n > text.limit()) {
            return refuse(FULL);
        }
        for (int i = n - 1; i >= 0; i--) {
            text.add((int) (v >> (8 * i)) & 255, 0, 0);
        }
        return text.size();
    }

    public int wipe() {
        return text.clear();
    }

    public int read() {
        draft.copy(now);
        draft.forget();
        int items = reader.readItems();
        if (items >= 0) {
            now.copy(draft);
            changed();
        }
        return items;
    }

    public int write(int character) {
        if (character < 0 || character > 127) {
            return refuse(BAD);
        }
        if (now.rule.isFull()) {
            return refuse(FULL);
        }
        changed();
        return now.rule.add(character, 0, 0) + 1;
    }

    public int erase() {
        changed();
        return now.rule.clear();
    }

    public int fault() {
        rule.refresh();
        return rule.firstFault();
    }

    // ---- clocks

    public int clock(int valley, int sun) {
        if (!isValley(valley) || !isIn(sun, 0, MINUTES)) {
            return refuse(BAD);
        }
        prepare();
        return day.clockAt(valley, sun);
    }

    public int counts(int person, int sun) {
        if (!isIn(person, 0, now.people.size() - 1) || !isIn(sun, 0, MINUTES - 1)) {
            return refuse(BAD);
        }
        prepare();
        return day.countedOf(person, sun);
    }

    public int sun(int valley, int c) {
        if (!isValley(valley) || !isIn(c, 0, MOST_CLOCK)) {
            return refuse(BAD);
        }
        prepare();
        return day.firstMinute(valley, c);
    }

    public int letter(int valley, int c, int l) {
        if (!isValley(valley) || !isIn(c, 0, MOST_CLOCK) || !isIn(l, 0, MINUTES)) {
            return refuse(BAD);
        }
        prepare();
        int sent = day.firstMinute(valley, c);
        if (sent == NONE || sent + l > MINUTES) {
            return NONE;
        }
        return day.clockAt(1 - valley, sent + l);
    }

    public int turns(int h) {
        if (!isIn(h, 1, 60)) {
            return refuse(BAD);
        }
        if (now.people.size() == 0) {
            return refuse(NO);
        }
        prepare();
        return day.firstMissedTurn(h);
    }

    // ---- dues

    public int paid(int due) {
        if (!isIn(due, NONE, now.dues.size() - 1)) {
            return refuseWorth();
        }
        prepare();
        if (due != NONE) {
            return isPaid(due) ? 1 : 0;
        }
        int worth = 0;
        for (int i = 0; i < now.dues.size(); i++) {
            if (isPaid(i)) {
                worth += now.dues.at(i, DUE_WORTH);
            }
        }
        return worth;
    }

    public int best(int k) {
        if (!isPrice(k)) {
            return refuseWorth();
        }
        return plan.mostFrom(0, k);
    }

    public int step(int k, int minute) {
        if (!isPrice(k) || !isIn(minute, 0, Plan.LAST - 1)) {
            return refuse(BAD);
        }
        return plan.stepIn(minute, k);
    }

    public int minute(int k) {
        if (!isPrice(k)) {
            return refuseWorth();
        }
        return plan.mostFrom(1, k) - plan.mostFrom(0, k);
    }

    public int stake(int la, int lb, int wa, int wb, int fee) {
        if (!isIn(la, 0, 20) || !isIn(lb, 0, 20) || !isIn(wa, -99, 99) || !isIn(wb, -99, 99)
                || !isIn(fee, 0, 99)) {
            return refuse(BAD);
        }
        now.stake[LA] = la;
        now.stake[LB] = lb;
        now.stake[WA] = wa;
        now.stake[WB] = wb;
        now.stake[FEE] = fee;
        return 1;
    }

    public int silence(int n, int d, int what) {
        if (!isIn(n, 0, Quarrel.LONGEST) || !isIn(d, 1, Quarrel.FARTHEST) || !isIn(what, 0, 3)) {
            return refuseWorth();
        }
        quarrel.play(now.stake, n, d);
        return quarrel.end(what);
    }

    public int night(int n, int w, int c) {
        if (!isIn(n, 0, 60) || !isIn(w, 0, 10) || !isIn(c, 0, 60)) {
            return refuse(BAD);
        }
        fraction.toChance(n, w, c);
        return 1;
    }

    // ---- who talked

    public int who(int what) {
        if (!isIn(what, 0, 2)) {
            return refuse(BAD);
        }
        prepare();
        guess.refresh();
        return guess.told(what);
    }

    // ---- what there is

    public int sign(int what) {
        if (!isIn(what, 0, 2)) {
            return refuse(BAD);
        }
        return fraction.shape(what);
    }

    public int limb(int which, int i) {
        if (!isIn(which, 0, 1) || i < 0) {
            return refuse(BAD);
        }
        return fraction.limbOf(which, i);
    }

    public int image(int i) {
        if (!isIn(i, 0, 1)) {
            return refuse(BAD);
        }
        imageOf(i).copy(now);
        kept[i] = true;
        return 1;
    }

    public int from(int i) {
        if (!isIn(i, 0, 1)) {
            return refuse(BAD);
        }
        if (!kept[i]) {
            return refuse(NO);
        }
        now.copy(imageOf(i));
        changed();
        return 1;
    }

    public int status(int what) {
        if (!isIn(what, 0, 2)) {
            refuse(BAD);
            return NONE;
        }
        return refusals[what];
    }

    public int count(int what) {
        if (!isIn(what, 0, 5)) {
            return refuse(BAD);
        }
        return sizeOf(what);
    }

    public long digest() {
        long h = 701;
        for (int what = 0; what <= 5; what++) {
            h = 31 * h + sizeOf(what);
        }
        return fraction.mixed(now.mixed(h));
    }

    // ---- helpers

    private static boolean isIn(int v, int least, int most) {
        return v >= least && v <= most;
    }

    private static boolean isValley(int valley) {
        return isIn(valley, 0, 1);
    }

    private static boolean isPrice(int k) {
        return isIn(k, 0, 9);
    }

    private int refuse(int how) {
        int reason = BAD - how;
        if (isIn(reason, 0, 2)) {
            refusals[reason]++;
        }
        return how;
    }

    private int refuseWorth() {
        refuse(BAD);
        return BAD_WORTH;
    }

    /** What was worked out before may not hold any more. */
    private void changed() {
        rule.spoil();
        day.spoil();
        plan.spoil();
        guess.spoil();
    }

    /** What asks for a clock is answered from the rule and the day as they stand now. */
    private void prepare() {
        rule.refresh();
        day.refresh();
    }

    private int enter(int item, int a, int b, int c) {
        if (!now.isAsTold(item, 0, a, 0) || !now.isAsTold(item, 1, b, a)
                || WIDTHS[item] == WIDEST && !now.isAsTold(item, 2, c, b)) {
            return refuse(BAD);
        }
        Rows rows = now.rowsOf(item);
        if (rows.isFull()) {
            return refuse(FULL);
        }
        changed();
        return rows.add(a, b, c);
    }

    private boolean isPaid(int due) {
        return day.clockAt(0, now.dues.at(due, DUE_SUN)) >= now.dues.at(due, DUE_CLOCK);
    }

    private State imageOf(int i) {
        return i == 0 ? firstImage : secondImage;
    }

    private int sizeOf(int what) {
        switch (what) {
            case 0: return now.people.size();
            case 1: return now.talks.size();
            case 2: return now.dues.size();
            case 3: return now.sights.size();
            case 4: return text.size();
            default: return now.rule.size();
        }
    }

    /** Rows of numbers, as they come, no more than a limit. */
    private static final class Rows {
        private final int width;
        private final int limit;
        private final int[] cells;
        private int size;

        Rows(int width, int limit) {
            this.width = Math.min(Math.max(width, 1), WIDEST);
            this.limit = Math.max(limit, 0);
            this.cells = new int[this.width * this.limit];
        }

        int size() {
            return size;
        }

        int limit() {
            return limit;
        }

        boolean isFull() {
            return size >= limit;
        }

        int at(int row, int cell) {
            if (row < 0 || row >= size || cell < 0 || cell >= width) {
                return 0;
            }
            return cells[row * width + cell];
        }

        int add(int a, int b, int c) {
            if (isFull()) {
                return FULL;
            }
            int first = size * width;
            cells[first] = a;
            if (width > 1) {
                cells[first + 1] = b;
            }
            if (width > 2) {
                cells[first + 2] = c;
            }
            size++;
            return size - 1;
        }

        int clear() {
            int had = size;
            size = 0;
            return had;
        }

        void copy(Rows other) {
            if (other == null || other.width != width || other.limit != limit) {
                return;
            }
            size = other.size;
            System.arraycopy(other.cells, 0, cells, 0, size * width);
        }

        /** 0, if there are none. */
        int greatest(int cell) {
            int most = 0;
            for (int row = 0; row < size; row++) {
                most = Math.max(most, at(row, cell));
            }
            return most;
        }

        long mixed(long h) {
            long sum = h;
            for (int i = 0; i < size * width; i++) {
                sum = 31 * sum + cells[i];
            }
            return sum;
        }
    }

    /** All that an image keeps. */
    private static final class State {
        final Rows people = new Rows(WIDTHS[PERSON], 5);
        final Rows talks = new Rows(WIDTHS[TALK], 16);
        final Rows dues = new Rows(WIDTHS[DUE], 8);
        final Rows sights = new Rows(WIDTHS[SIGHT], 10);
        final Rows rule = new Rows(1, 40);
        final int[] settings = {1, 0, 60};
        final int[] stake = new int[5];

        Rows rowsOf(int item) {
            switch (item) {
                case TALK: return talks;
                case DUE: return dues;
                case SIGHT: return sights;
                default: return people;
            }
        }

        /** Whether number i of an item may be v, the one ahead of it being before. */
        boolean isAsTold(int item, int i, int v, int before) {
            if (item < 0 || item >= ITEMS || i < 0 || i >= WIDTHS[item]) {
                return false;
            }
            int place = WIDEST * item + i;
            if (v < LEAST[place] || v > MOST[place]) {
                return false;
            }
            if (item != TALK) {
                return true;
            }
            return i == TALKER ? v < people.size() : i == FROM || v > before;
        }

        /** THE RULE and what SILENCE is played for stay. */
        void forget() {
            people.clear();
            talks.clear();
            dues.clear();
            sights.clear();
            settings[FAST] = 1;
            settings[SONGS] = 0;
            settings[BED] = 60;
        }

        void copy(State other) {
            if (other == null) {
                return;
            }
            people.copy(other.people);
            talks.copy(other.talks);
            dues.copy(other.dues);
            sights.copy(other.sights);
            rule.copy(other.rule);
            System.arraycopy(other.settings, 0, settings, 0, settings.length);
            System.arraycopy(other.stake, 0, stake, 0, stake.length);
        }

        long mixed(long h) {
            long sum = mixedWith(h, settings);
            sum = sights.mixed(dues.mixed(talks.mixed(people.mixed(sum))));
            return rule.mixed(mixedWith(sum, stake));
        }

        private static long mixedWith(long h, int[] numbers) {
            long sum = h;
            for (int number : numbers) {
                sum = 31 * sum + number;
            }
            return sum;
        }
    }

    /** Reads the text of a valley, token by token. */
    private static final class Reader {
        private static final int END = 0, WORD = 1, NUMBER = 2, DASH = 3, STOP = 4, OTHER = 5;
        private static final int MOST_FIGURES = 3;

        private final Rows text;
        private final State state;
        private final int[] numbers = new int[WIDEST];
        private int place;
        private int token;
        private int first;
        private int number;

        Reader(Rows text, State state) {
            this.text = text;
            this.state = state;
        }

        int readItems() {
            place = 0;
            advance();
            int items = 0;
            while (token != END && items < text.limit()) {
                if (!isItem()) {
                    return -10 - first;
                }
                items++;
            }
            return items;
        }

        /** Where it is none, the token that can not stand there is the one at hand. */
        private boolean isItem() {
            int item = token == WORD ? itemAtHand() : NONE;
            if (item == NONE || item >= PERSON && state.rowsOf(item).isFull()) {
                return false;
            }
            advance();
            for (int i = 0; i < WIDTHS[item]; i++) {
                boolean isLess = item == DUE && i == DUE_WORTH && token == DASH;
                if (isLess) {
                    advance();
                }
                int v = isLess ? -number : number;
                if (token != NUMBER || !state.isAsTold(item, i, v, i > 0 ? numbers[i - 1] : 0)) {
                    return false;
                }
                numbers[i] = v;
                advance();
            }
            if (token != STOP) {
                return false;
            }
            advance();
            keep(item);
            return true;
        }

        private void keep(int item) {
            if (item < PERSON) {
                state.settings[item] = numbers[0];
            } else {
                state.rowsOf(item).add(numbers[0], numbers[1], numbers[2]);
            }
        }

        private void advance() {
            while (place < text.size() && text.at(place, 0) == ' ') {
                place++;
            }
            first = place;
            if (place >= text.size()) {
                token = END;
                return;
            }
            int sign = text.at(place, 0);
            if (isLetter(sign)) {
                passWord();
            } else if (isFigure(sign)) {
                passFigures();
            } else {
                token = sign == '-' ? DASH : sign == ';' ? STOP : OTHER;
                place++;
            }
        }

        private void passWord() {
            while (place < text.size() && isLetter(text.at(place, 0))) {
                place++;
            }
            token = WORD;
        }

        private void passFigures() {
            number = 0;
            while (place < text.size() && isFigure(text.at(place, 0))) {
                if (place - first < MOST_FIGURES) {
                    number = 10 * number + text.at(place, 0) - '0';
                }
                place++;
            }
            token = place - first > MOST_FIGURES ? OTHER : NUMBER;
        }

        private int itemAtHand() {
            for (int item = 0; item < ITEMS; item++) {
                if (isAtHand(wordOf(item))) {
                    return item;
                }
            }
            return NONE;
        }

        private boolean isAtHand(String word) {
            if (word.length() != place - first) {
                return false;
            }
            for (int i = 0; i < word.length(); i++) {
                if (text.at(first + i, 0) != word.charAt(i)) {
                    return false;
                }
            }
            return true;
        }

        private static String wordOf(int item) {
            switch (item) {
                case FAST: return "fast";
                case SONGS: return "songs";
                case BED: return "bed";
                case PERSON: return "person";
                case TALK: return "talk";
                case DUE: return "due";
                default: return "sight";
            }
        }

        private static boolean isLetter(int sign) {
            return sign >= 'a' && sign <= 'z';
        }

        private static boolean isFigure(int sign) {
            return sign >= '0' && sign <= '9';
        }
    }

    /** THE RULE, worked out from a row in which a sign stands behind what it joins. */
    private static final class Rule {
        private static final int LONGEST = 40;
        private static final int MOST_DIGITS = 6;
        private static final int MOST_OPEN = 8;
        private static final int END = -1;

        // The kinds of FAULT.
        private static final int STRAY = 1, LONG_NUMBER = 2, TOO_DEEP = 3;

        // How closely signs bind, the loosest first.
        private static final int OR = 0, AND = 1, COMPARISON = 2, SUM = 3, PRODUCT = 4;

        // In the row a number stands as itself, name i as -1 - i, a sign as less than 0 by it.
        private static final int NAMES = 6;
        private static final int CLOCK = 0, MINUTE = 1, OTHERS = 2, NUMBER = 3, HIS_BED = 4, PACE = 5;
        private static final int NOT = -'!', NEGATE = -'~';

        private final State state;
        private final int[] row = new int[LONGEST];
        private final long[] stack = new long[LONGEST];
        private final int[] known = new int[NAMES];
        private int size;
        private int place;
        private int fault;
        private boolean isStale = true;

        Rule(State state) {
            this.state = state;
        }

        void spoil() {
            isStale = true;
        }

        void refresh() {
            if (!isStale) {
                return;
            }
            isStale = false;
            size = 0;
            place = 0;
            fault = NONE;
            parseLevel(OR, 0);
            if (ahead() != END) {
                stop(place, STRAY);
            }
        }

        int firstFault() {
            return fault;
        }

        boolean holds(int person, int minute, int clock, int others) {
            if (fault != NONE) {
                return false;
            }
            known[CLOCK] = clock;
            known[MINUTE] = minute;
            known[OTHERS] = others;
            known[NUMBER] = person;
            known[HIS_BED] = state.settings[BED];
            known[PACE] = state.settings[FAST];
            return worked() != 0;
        }

        private void parseLevel(int rank, int open) {
            if (rank > PRODUCT) {
                parseUnit(open);
                return;
            }
            parseLevel(rank + 1, open);
            int most = rank == COMPARISON ? 1 : LONGEST;
            for (int i = 0; i < most && fault == NONE && rankOf(ahead()) == rank; i++) {
                int sign = ahead();
                place++;
                parseLevel(rank + 1, open);
                emit(-sign);
            }
        }

        private void parseUnit(int open) {
            int first = place;
            while (place < state.rule.size() && isPrefix(ahead())) {
                place++;
            }
            int behind = place;
            parseOperand(open);
            // The one nearest to the operand is worked first.
            for (int i = behind - 1; i >= first; i--) {
                int sign = state.rule.at(i, 0);
                if (isPrefix(sign)) {
                    emit(sign == '!' ? NOT : NEGATE);
                }
            }
        }

        private void parseOperand(int open) {
            int sign = ahead();
            if (isDigit(sign)) {
                parseNumber();
            } else if (nameOf(sign) != NONE) {
                place++;
                emit(-1 - nameOf(sign));
            } else if (sign != '(') {
                stop(place, STRAY);
            } else if (open >= MOST_OPEN) {
                stop(place, TOO_DEEP);
            } else {
                place++;
                parseLevel(OR, open + 1);
                if (ahead() != ')') {
                    stop(place, STRAY);
                }
                place++;
            }
        }

        private void parseNumber() {
            int first = place;
            int number = 0;
            while (place < state.rule.size() && isDigit(state.rule.at(place, 0))) {
                if (place - first < MOST_DIGITS) {
                    number = 10 * number + state.rule.at(place, 0) - '0';
                }
                place++;
            }
            if (place - first > MOST_DIGITS) {
                stop(first, LONG_NUMBER);
            }
            emit(number);
        }

        private int ahead() {
            while (place < state.rule.size() && state.rule.at(place, 0) == ' ') {
                place++;
            }
            return place < state.rule.size() ? state.rule.at(place, 0) : END;
        }

        /** Only the first fault counts: what comes behind it was read on a false track. */
        private void stop(int where, int kind) {
            if (fault == NONE) {
                fault = 10 * where + kind;
            }
        }

        private void emit(int entry) {
            if (fault == NONE && size < row.length) {
                row[size] = entry;
                size++;
            }
        }

        private long worked() {
            int top = 0;
            for (int i = 0; i < size; i++) {
                int entry = row[i];
                if (entry == NOT || entry == NEGATE) {
                    if (top > 0) {
                        stack[top - 1] = entry == NEGATE ? -stack[top - 1] : stack[top - 1] == 0 ? 1 : 0;
                    }
                } else if (entry < -NAMES) {
                    if (top > 1) {
                        top--;
                        stack[top - 1] = joined(-entry, stack[top - 1], stack[top]);
                    }
                } else if (top < stack.length) {
                    stack[top] = entry >= 0 ? entry : known[-1 - entry];
                    top++;
                }
            }
            return top > 0 ? stack[0] : 0;
        }

        private static long joined(int sign, long a, long b) {
            switch (sign) {
                case '|': return a != 0 || b != 0 ? 1 : 0;
                case '&': return a != 0 && b != 0 ? 1 : 0;
                case '<': return a < b ? 1 : 0;
                case '>': return a > b ? 1 : 0;
                case '=': return a == b ? 1 : 0;
                case '+': return a + b;
                case '-': return a - b;
                case '*': return a * b;
                default: return b == 0 ? 0 : a / b;
            }
        }

        private static int rankOf(int sign) {
            switch (sign) {
                case '|': return OR;
                case '&': return AND;
                case '<': case '>': case '=': return COMPARISON;
                case '+': case '-': return SUM;
                case '*': case '/': return PRODUCT;
                default: return NONE;
            }
        }

        private static int nameOf(int sign) {
            switch (sign) {
                case 'c': return CLOCK;
                case 's': return MINUTE;
                case 'o': return OTHERS;
                case 'p': return NUMBER;
                case 'b': return HIS_BED;
                case 'f': return PACE;
                default: return NONE;
            }
        }

        private static boolean isPrefix(int sign) {
            return sign == '!' || sign == '-';
        }

        private static boolean isDigit(int sign) {
            return sign >= '0' && sign <= '9';
        }
    }

    /** Both clocks, minute by minute, and what people count. */
    private static final class Day {
        private static final int ANYONE = 0, LOUD = 1, SINGER = 2, MUTTERER = 3, TOLD = 4, CHILD = 5;

        private final State state;
        private final Rule rule;
        private final int[] talkers = new int[MINUTES];
        private final int[][] clocks = new int[2][MINUTES + 1];
        private boolean isStale = true;

        Day(State state, Rule rule) {
            this.state = state;
            this.rule = rule;
        }

        void spoil() {
            isStale = true;
        }

        int clockAt(int valley, int minute) {
            return isValley(valley) && isIn(minute, 0, MINUTES) ? clocks[valley][minute] : 0;
        }

        int countedOf(int person, int minute) {
            if (!isTalking(person, minute)) {
                return 0;
            }
            int valley = state.people.at(person, VALLEY);
            int clock = clockAt(valley, minute);
            int others = together(valley, minute, clock, EVERYBODY, person);
            return voiceOf(person, minute, clock, others);
        }

        int firstMinute(int valley, int c) {
            for (int minute = 0; minute <= MINUTES; minute++) {
                if (clockAt(valley, minute) >= c) {
                    return minute;
                }
            }
            return NONE;
        }

        int firstMissedTurn(int h) {
            int people = state.people.size();
            if (h < 1 || people < 1) {
                return NONE;
            }
            int end = state.talks.greatest(TO);
            for (int minute = 0; minute < end; minute++) {
                if (countedOf(minute / h % people, minute) == 0) {
                    return minute;
                }
            }
            return NONE;
        }

        void refresh() {
            if (!isStale) {
                return;
            }
            isStale = false;
            fillTalkers();
            int people = state.people.size();
            for (int valley = 0; valley < clocks.length; valley++) {
                int clock = 0;
                for (int minute = 0; minute < MINUTES; minute++) {
                    clocks[valley][minute] = clock;
                    int counted = together(valley, minute, clock, EVERYBODY, people);
                    clock += Math.min(counted, state.settings[FAST]);
                }
                clocks[valley][MINUTES] = clock;
            }
        }

        private void fillTalkers() {
            Arrays.fill(talkers, 0);
            for (int i = 0; i < state.talks.size(); i++) {
                int bit = 1 << state.talks.at(i, TALKER);
                int end = Math.min(state.talks.at(i, TO), MINUTES);
                for (int minute = Math.max(state.talks.at(i, FROM), 0); minute < end; minute++) {
                    talkers[minute] |= bit;
                }
            }
        }

        private boolean isTalking(int person, int minute) {
            return isIn(minute, 0, MINUTES - 1) && (talkers[minute] >> person & 1) != 0;
        }

        /** What those of a set with numbers below end count in a valley, if they alone talk. */
        int together(int valley, int minute, int clock, int set, int end) {
            int sum = 0;
            for (int person = 0; person < end; person++) {
                if ((set >> person & 1) != 0 && isTalking(person, minute)
                        && state.people.at(person, VALLEY) == valley) {
                    sum += voiceOf(person, minute, clock, sum);
                }
            }
            return sum;
        }

        private int voiceOf(int person, int minute, int clock, int others) {
            int song = state.settings[SONGS];
            switch (state.people.at(person, KIND)) {
                case ANYONE: return 1;
                case LOUD: return 2;
                case SINGER: return song;
                case MUTTERER: return minute % 3 == 0 ? 1 : 0;
                case TOLD: return song != 0 && rule.holds(person, minute, clock, others) ? song : 0;
                case CHILD: return clock < state.settings[BED] ? 1 : 0;
                default: return 0;
            }
        }
    }

    /** The plan of talk that is worth most, from the last minute back. */
    private static final class Plan {
        /** The last minute and the highest clock that a due can name: a clock beyond is as good as that. */
        static final int LAST = 99;

        private static final int STEP_BITS = 3, STEP_MASK = 7, STEPS_A_LONG = 20;
        private static final int LONGS_A_MINUTE = 5;

        private final State state;
        private final int[] most = new int[LAST + 1];
        private final long[] steps = new long[LAST * LONGS_A_MINUTE];
        private int price;
        private boolean isStale = true;

        Plan(State state) {
            this.state = state;
        }

        void spoil() {
            isStale = true;
        }

        int mostFrom(int clock, int k) {
            refresh(k);
            return isIn(clock, 0, LAST) ? most[clock] : 0;
        }

        int stepIn(int minute, int k) {
            refresh(k);
            int clock = 0;
            for (int i = 0; i < minute && i < LAST; i++) {
                clock = Math.min(clock + stepAt(i, clock), LAST);
            }
            return stepAt(minute, clock);
        }

        private void refresh(int k) {
            if (!isStale && price == k) {
                return;
            }
            isStale = false;
            price = k;
            Arrays.fill(most, 0);
            Arrays.fill(steps, 0L);
            int end = Math.min(state.dues.greatest(DUE_SUN), LAST);
            int top = Math.min(state.dues.greatest(DUE_CLOCK), LAST);
            payDues(end);
            for (int minute = end - 1; minute >= 0; minute--) {
                // Beyond the top a step brings no due any more.
                chooseSteps(minute, top);
                payDues(minute);
            }
        }

        private void payDues(int minute) {
            for (int i = 0; i < state.dues.size(); i++) {
                if (state.dues.at(i, DUE_SUN) == minute) {
                    int worth = state.dues.at(i, DUE_WORTH);
                    for (int clock = Math.max(state.dues.at(i, DUE_CLOCK), 0); clock <= LAST; clock++) {
                        most[clock] += worth;
                    }
                }
            }
        }

        /** Clocks upward, in one row: the higher ones, to which one steps, are still the next minute's. */
        private void chooseSteps(int minute, int top) {
            int fast = state.settings[FAST];
            int highest = Math.min(fast * minute + 1, top);
            for (int clock = 0; clock <= highest; clock++) {
                int worth = most[clock];
                int chosen = 0;
                for (int step = 1; step <= fast; step++) {
                    int other = most[Math.min(clock + step, LAST)] - price * step;
                    if (other > worth) {
                        worth = other;
                        chosen = step;
                    }
                }
                most[clock] = worth;
                keepStep(minute, clock, chosen);
            }
        }

        private void keepStep(int minute, int clock, int step) {
            if (isIn(minute, 0, LAST - 1) && isIn(clock, 0, LAST)) {
                int place = minute * LONGS_A_MINUTE + clock / STEPS_A_LONG;
                steps[place] |= (long) step << (STEP_BITS * (clock % STEPS_A_LONG));
            }
        }

        private int stepAt(int minute, int clock) {
            if (!isIn(minute, 0, LAST - 1) || !isIn(clock, 0, LAST)) {
                return 0;
            }
            int place = minute * LONGS_A_MINUTE + clock / STEPS_A_LONG;
            return (int) (steps[place] >> (STEP_BITS * (clock % STEPS_A_LONG))) & STEP_MASK;
        }
    }

    /** Two who hold their tongues. */
    private static final class Quarrel {
        static final int LONGEST = 40;
        static final int FARTHEST = 20;

        // What each has from the minute at hand on, by how far the clock has gone.
        private final int[] hers = new int[FARTHEST + 1];
        private final int[] his = new int[FARTHEST + 1];

        /** A bit for each way that the clock may have gone: whether one talks then. */
        private final int[] talks = new int[LONGEST];
        private int firstTalk;
        private int gone;

        void play(int[] stake, int n, int d) {
            if (stake == null || stake.length <= FEE || !isIn(n, 0, LONGEST) || !isIn(d, 1, FARTHEST)) {
                return;
            }
            Arrays.fill(hers, 0);
            Arrays.fill(his, 0);
            hers[d] = stake[WA];
            his[d] = stake[WB];
            for (int minute = n - 1; minute >= 0; minute--) {
                weigh(stake, minute, d);
            }
            firstTalk = NONE;
            gone = 0;
            for (int minute = 0; minute < n && gone < d; minute++) {
                if ((talks[minute] >> gone & 1) != 0) {
                    firstTalk = firstTalk == NONE ? minute : firstTalk;
                    gone++;
                }
            }
        }

        int end(int what) {
            switch (what) {
                case 0: return hers[0];
                case 1: return his[0];
                case 2: return firstTalk;
                default: return gone;
            }
        }

        /** Ways upward, in one row: the next way is still the next minute's. */
        private void weigh(int[] stake, int minute, int d) {
            boolean isHers = minute % 2 == 0;
            talks[minute] = 0;
            for (int way = 0; way < d; way++) {
                int herStill = hers[way] - stake[LA];
                int hisStill = his[way] - stake[LB];
                int herTalk = hers[way + 1] - (isHers ? stake[FEE] : 0);
                int hisTalk = his[way + 1] - (isHers ? 0 : stake[FEE]);
                boolean isTalk = isHers ? herTalk > herStill : hisTalk > hisStill;
                hers[way] = isTalk ? herTalk : herStill;
                his[way] = isTalk ? hisTalk : hisStill;
                if (isTalk) {
                    talks[minute] |= 1 << way;
                }
            }
        }
    }

    /** By whom it must have been talked, from what was seen. */
    private static final class Guess {
        private final State state;
        private final Day day;
        private final int[] seen = new int[MINUTES + 1];
        private int sets;
        private int least;
        private int surely;
        private boolean isStale = true;

        Guess(State state, Day day) {
            this.state = state;
            this.day = day;
        }

        void spoil() {
            isStale = true;
        }

        int told(int what) {
            switch (what) {
                case 0: return sets;
                case 1: return least;
                default: return surely;
            }
        }

        /** The day must have been refreshed: it knows who may talk. */
        void refresh() {
            if (!isStale) {
                return;
            }
            isStale = false;
            sets = 0;
            least = NONE;
            surely = NONE;
            if (!noteSights()) {
                return;
            }
            int last = state.sights.greatest(SIGHT_SUN);
            int all = peopleThere();
            for (int set = 0; set <= all; set++) {
                if ((set & ~all) == 0 && fits(set, last)) {
                    least = sets == 0 ? set : least;
                    // NONE has all bits.
                    surely &= set;
                    sets++;
                }
            }
        }

        /** Whether no two sights tell different clocks for one minute. */
        private boolean noteSights() {
            Arrays.fill(seen, NONE);
            for (int i = 0; i < state.sights.size(); i++) {
                int minute = state.sights.at(i, SIGHT_SUN);
                int clock = state.sights.at(i, SIGHT_CLOCK);
                if (isIn(minute, 0, MINUTES)) {
                    if (seen[minute] != NONE && seen[minute] != clock) {
                        return false;
                    }
                    seen[minute] = clock;
                }
            }
            return true;
        }

        private int peopleThere() {
            int all = 0;
            for (int person = 0; person < state.people.size(); person++) {
                if (state.people.at(person, VALLEY) == 0) {
                    all |= 1 << person;
                }
            }
            return all & EVERYBODY;
        }

        private boolean fits(int set, int last) {
            int clock = 0;
            for (int minute = 0; minute <= last && minute <= MINUTES; minute++) {
                if (seen[minute] != NONE && seen[minute] != clock) {
                    return false;
                }
                if (minute < last && minute < MINUTES) {
                    int counted = day.together(0, minute, clock, set, state.people.size());
                    clock += Math.min(counted, state.settings[FAST]);
                }
            }
            return true;
        }
    }

    /** A number that is not below 0, too great for a long. */
    private static final class Big {
        /** 10 to the 60th, 600 times, has 7. */
        private static final int MOST_LIMBS = 8;
        private static final int LIMB_BITS = 30;
        private static final long LIMB_MASK = (1L << LIMB_BITS) - 1;

        private final int[] limbs = new int[MOST_LIMBS];

        Big(int small) {
            limbs[0] = small;
        }

        void become(int small) {
            Arrays.fill(limbs, 0);
            limbs[0] = small;
        }

        int size() {
            for (int size = MOST_LIMBS; size > 0; size--) {
                if (limbs[size - 1] != 0) {
                    return size;
                }
            }
            return 0;
        }

        int limbAt(int i) {
            return i >= 0 && i < size() ? limbs[i] : NONE;
        }

        void times(int small) {
            long carry = 0;
            for (int i = 0; i < MOST_LIMBS; i++) {
                carry += (long) limbs[i] * small;
                limbs[i] = (int) (carry & LIMB_MASK);
                carry >>= LIMB_BITS;
            }
        }

        void plus(Big other) {
            if (other == null) {
                return;
            }
            long carry = 0;
            for (int i = 0; i < MOST_LIMBS; i++) {
                carry += (long) limbs[i] + other.limbs[i];
                limbs[i] = (int) (carry & LIMB_MASK);
                carry >>= LIMB_BITS;
            }
        }

        boolean isDivided(int small) {
            long rest = 0;
            for (int i = MOST_LIMBS - 1; i >= 0 && small > 0; i--) {
                rest = (rest << LIMB_BITS | limbs[i]) % small;
            }
            return rest == 0;
        }

        void divide(int small) {
            long rest = 0;
            for (int i = MOST_LIMBS - 1; i >= 0 && small > 0; i--) {
                long part = rest << LIMB_BITS | limbs[i];
                limbs[i] = (int) (part / small);
                rest = part % small;
            }
        }

        long mixed(long h) {
            long sum = h;
            for (int i = 0; i < size(); i++) {
                sum = 31 * sum + limbs[i];
            }
            return sum;
        }
    }

    /** A chance, in lowest terms. */
    private static final class Fraction {
        private static final int ODDS = 10;

        private final Big above = new Big(0);
        private final Big below = new Big(1);
        private final Big term = new Big(0);

        int shape(int what) {
            switch (what) {
                case 0: return above.size() > 0 ? 1 : 0;
                case 1: return above.size();
                default: return below.size();
            }
        }

        int limbOf(int which, int i) {
            return which == 0 ? above.limbAt(i) : below.limbAt(i);
        }

        long mixed(long h) {
            long sum = h;
            for (int what = 0; what <= 2; what++) {
                sum = 31 * sum + shape(what);
            }
            return below.mixed(above.mixed(sum));
        }

        void toChance(int n, int w, int c) {
            above.become(0);
            below.become(1);
            if (w >= ODDS) {
                above.become(c <= n ? 1 : 0);
                return;
            }
            int silent = ODDS - w;
            term.become(1);
            for (int i = 0; i < n; i++) {
                below.times(ODDS);
                term.times(silent);
            }
            for (int heard = 0; heard <= n; heard++) {
                if (heard >= c) {
                    above.plus(term);
                }
                term.times((n - heard) * w);
                term.divide((heard + 1) * silent);
            }
            reduce(2, n);
            reduce(5, n);
        }

        /** Below stands a power of 10: nothing but 2 and 5 divides it, n times each. */
        private void reduce(int small, int n) {
            for (int i = 0; i < n && above.isDivided(small) && below.isDivided(small); i++) {
                above.divide(small);
                below.divide(small);
            }
        }
    }
}
