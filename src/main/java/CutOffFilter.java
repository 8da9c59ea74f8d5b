/**
 * A filter of whole numbers: an output from an input and the outputs ahead of it, by coefficients, cut off to so many
 * bits by kinds of rounding and of overflow. ../shared/DOC.md says what each call answers; README.md how it is used.
 */
public final class CutOffFilter {
    public static final int BAD = -1, NOT = -2, FULL = -3, STATE = -5, NO = -1001, NONE = -1002, HALTED = -1005;
    public static final long VOID = Long.MIN_VALUE, ENDED = Long.MIN_VALUE + 1L;

    private static final int MISSING = -11, UNLIKE = -12, OUTSIDE = -13, TOO_SMALL = -14, MISSED = -1011;
    private static final int NOTHING = -1000000;

    /** Where each number stands among the numbers of a filter. */
    private static final int ORDER = 0, BITS = 1, FIRST = 2, IN = 5, SHIFT = 6, ROUNDING = 7, OVERFLOW = 8, PLACE = 9;
    private static final int NUMBERS = 10;
    private static final int[] LOWEST = {1, 2, -99, -99, -99, -99, 0, 0, 0, 0};
    private static final int[] HIGHEST = {3, 5, 99, 99, 99, 99, 6, 4, 4, 1};
    /** What fits() tries, by its what. */
    private static final int[] TRIED = {ROUNDING, OVERFLOW, SHIFT, PLACE, FIRST, FIRST};

    private static final int MOST_WORDS = 3, MOST_STARTS = 1024, MOST_INPUT = 99, MOST_REACH = 20, MOST_CUT = 100000;
    private static final int KINDS = 5, LOUD = 99, MOST_UNIT = 2000000000, MOST_INT = 2147483647;
    private static final int ROWS = 4, PLACES = 40, TAPE = 80, CHANGES = 12, TRACE = 24;
    private static final int HALT_ENDED = 0, SQUARE_ENDED = 1, SUM_ENDED = 2;

    /** The kind that each kind is under (-1: none), first of roundings, then of overflows. */
    private static final int[] ROUNDING_ABOVE = {-1, 0, 0, 2, 1};
    private static final int[] OVERFLOW_ABOVE = {-1, 0, 0, 1, 0};
    /** The bodies of each rounding's lifts, lowers, tells; 0: it has none of its own. */
    private static final int[] BODIES = {10, 11, 12, 0, 20, 0, 30, 0, 0, 41, 0, 40, 0, 50, 0};
    private static final int LIFTS = 0, LOWERS = 1, TELLS = 2, DEEPEST = 20;

    /** The letters of a text's acts: the first eight stand in the order of what set() calls what. */
    private static final String LETTERS = "nbcisropyx";
    private static final int LETTER_C = 2, LETTER_Y = 8, LETTER_X = 9;

    private final Filter filter = new Filter();
    /** What tries and runs in thought are made with, so that the filter itself stays. */
    private final Filter trial = new Filter();
    private final Filter kept = new Filter();
    private boolean hasImage = false;
    private final Ways ways = new Ways();
    private final Spread spread = new Spread();
    private final Course course = new Course();
    private final Row[] rows = {new Row(), new Row(), new Row(), new Row()};
    private final Changes changes = new Changes();
    private final Tape tape = new Tape();
    private final Bodies bodies = new Bodies();
    private final int[] causes = {0, 0, 0};
    private boolean hasCauses = false;
    private int stepsDone = 0;

    public CutOffFilter() {
    }

    // ---- numbers that are set

    public int set(int what, int number, int v) {
        int slot = slotOf(what, number);
        if (slot < 0 || slot >= NUMBERS || v < LOWEST[slot] || v > HIGHEST[slot]) {
            return NO;
        }
        if (filter.isTooLargeWith(slot, v)) {
            return HALTED;
        }
        int was = filter.numbers[slot];
        if (was != v) {
            changes.add(slot, was, v);
            filter.become(slot, v);
        }
        return was;
    }

    public int of(int what, int number) {
        int slot = slotOf(what, number);
        return slot < 0 || slot >= NUMBERS ? NO : filter.numbers[slot];
    }

    public int past(int k, int v) {
        if (!isWordNumber(k) || !filter.holds(v)) {
            return NO;
        }
        int was = filter.words[k - 1];
        filter.words[k - 1] = v;
        return was;
    }

    public int word(int k) {
        return isWordNumber(k) ? filter.words[k - 1] : NO;
    }

    // ---- steps

    public int step(int input) {
        if (!isInput(input)) {
            return NO;
        }
        filter.weigh(input);
        if (filter.result == HALTED) {
            tellCauses(0, HALT_ENDED, filter.v);
            return HALTED;
        }
        filter.push();
        stepsDone++;
        return filter.result;
    }

    public int would(int input, int what) {
        if (!isInput(input) || what < 0 || what > 4) {
            return NOTHING;
        }
        filter.weigh(input);
        switch (what) {
            case 0: return filter.result;
            case 1: return filter.all;
            case 2: return filter.v;
            case 3: return filter.loss;
            default: return filter.over ? 1 : 0;
        }
    }

    public int rounded(int rounding, int shift, int v) {
        if (!isKind(rounding) || shift < 0 || shift > HIGHEST[SHIFT] || v < -MOST_CUT || v > MOST_CUT) {
            return NOTHING;
        }
        return Filter.toWhole(rounding, shift, v);
    }

    public int bounded(int overflow, int v) {
        if (!isKind(overflow) || v < -MOST_CUT || v > MOST_CUT) {
            return NO;
        }
        return filter.toWord(overflow, v);
    }

    // ---- runs

    public int output(int row, int k) {
        if (!isRow(row)) {
            return NO;
        }
        if (isMissing(row)) {
            return MISSED;
        }
        followInThought(row);
        return k < 0 || k >= course.length || k >= PLACES ? NONE : course.outputs[k];
    }

    public int run(int row, int what) {
        if (!isRow(row) || what < 0 || what > 2) {
            return BAD;
        }
        if (isMissing(row)) {
            return MISSING;
        }
        followInThought(row);
        switch (what) {
            case 0: return course.length;
            case 1: return course.overs;
            default: return course.halted ? 1 : 0;
        }
    }

    public int go(int row) {
        if (!isRow(row)) {
            return BAD;
        }
        if (isMissing(row)) {
            return MISSING;
        }
        course.follow(filter, rows[row]);
        stepsDone += course.length;
        if (course.halted) {
            tellCauses(course.length, HALT_ENDED, course.haltedBy);
        }
        return course.length;
    }

    public long noise(int row, int part) {
        if (!isRow(row) || !isPart(part) || isMissing(row)) {
            return VOID;
        }
        followInThought(row);
        return inLowestTerms(course.lossesTogether(), filter.unit(), part);
    }

    public int levels(int row) {
        if (!isRow(row)) {
            return BAD;
        }
        if (isMissing(row)) {
            return MISSING;
        }
        followInThought(row);
        return course.howManyLevels();
    }

    public int level(int row, int k, int what) {
        if (!isRow(row) || what < 0 || what > 2 || isMissing(row)) {
            return NOTHING;
        }
        followInThought(row);
        int first = course.placeOfLevel(k);
        if (first < 0 || first >= PLACES) {
            return NOTHING;
        }
        int loss = course.losses[first];
        return what == 2 ? course.howOften(loss) : (int) inLowestTerms(loss, filter.unit(), what);
    }

    public long measure(int row, int unit) {
        if (!isRow(row) || unit < 1 || unit > MOST_UNIT || isMissing(row)) {
            return VOID;
        }
        followInThought(row);
        long sum = 0;
        for (int i = 0; i < course.length && i < PLACES; i++) {
            int made = course.outputs[i];
            long square = (long) made * made * unit;
            if (square > MOST_INT) {
                tellCauses(i, SQUARE_ENDED, made);
                return ENDED;
            }
            sum += square;
            if (sum > MOST_INT) {
                tellCauses(i, SUM_ENDED, (int) square);
                return ENDED;
            }
        }
        if (course.halted) {
            tellCauses(course.length, HALT_ENDED, course.haltedBy);
            return ENDED;
        }
        return sum;
    }

    public int cause(int k) {
        if (k < 0 || k >= causes.length) {
            return NOTHING;
        }
        return hasCauses ? causes[k] : NONE;
    }

    // ---- all starts

    public int starts() {
        return filter.howManyPasts();
    }

    public int code() {
        return filter.packed();
    }

    public int next(int code, int input) {
        if (!isStart(code) || !isInput(input)) {
            return BAD;
        }
        trial.take(filter);
        trial.unpack(code);
        trial.weigh(input);
        return trial.result == HALTED ? STATE : trial.codeBehind(code);
    }

    public int leads(int code, int input, int what) {
        if (!isStart(code) || !isInput(input) || what < 0 || what > 2) {
            return BAD;
        }
        ways.draw(filter, input);
        int cycle = ways.cycleFrom(code);
        if (cycle < 0) {
            return STATE;
        }
        switch (what) {
            case 0: return ways.tailFrom(code);
            case 1: return ways.periodOf(cycle);
            default: return ways.numberOf(cycle);
        }
    }

    public int cycles(int input, int what) {
        if (!isInput(input) || what < 0 || what > 4) {
            return BAD;
        }
        ways.draw(filter, input);
        switch (what) {
            case 0: return ways.numberOf(filter.howManyPasts());
            case 1: return ways.basinOf(Ways.STUCK);
            case 2: return ways.longestTail();
            case 3: return ways.loudestOfAll();
            default: return ways.howManyOnCycles();
        }
    }

    public int cycle(int input, int k, int what) {
        if (!isInput(input) || what < 0 || what > 3) {
            return BAD;
        }
        ways.draw(filter, input);
        int cycle = ways.cycleNumbered(k);
        if (cycle < 0) {
            return NOT;
        }
        switch (what) {
            case 0: return cycle;
            case 1: return ways.periodOf(cycle);
            case 2: return ways.amplitudeOf(cycle);
            default: return ways.basinOf(cycle);
        }
    }

    public int onCycle(int input, int k, int i) {
        if (!isInput(input) || i < 0) {
            return BAD;
        }
        ways.draw(filter, input);
        int cycle = ways.cycleNumbered(k);
        return cycle < 0 ? NOT : ways.behindOnCycle(cycle, i);
    }

    // ---- scales, kinds

    public int reach(int b, int what) {
        if (b < 0 || b > MOST_REACH || what < 0 || what > 1) {
            return BAD;
        }
        trial.take(filter);
        spread.search(trial, b, false);
        return what == 0 ? spread.found : spread.over ? 1 : 0;
    }

    public int scale(int b) {
        if (b < 0 || b > MOST_REACH) {
            return BAD;
        }
        trial.take(filter);
        for (int k = 0; k <= HIGHEST[SHIFT]; k++) {
            spread.search(trial, b >> k, true);
            if (!spread.over) {
                return k;
            }
        }
        return NOT;
    }

    public int quietest(int input, int what) {
        if (!isInput(input) || what < 0 || what > 1) {
            return BAD;
        }
        trial.take(filter);
        int best = 0;
        int least = LOUD + 1;
        for (int rounding = 0; rounding < KINDS; rounding++) {
            trial.numbers[ROUNDING] = rounding;
            ways.draw(trial, input);
            int loudest = ways.loudestOfAll();
            if (loudest < least) {
                least = loudest;
                best = rounding;
            }
        }
        return what == 0 ? best : least;
    }

    public int tamed(int input, int a) {
        if (!isInput(input) || a < 0 || a > LOUD) {
            return NO;
        }
        trial.take(filter);
        for (int v = HIGHEST[FIRST]; v >= LOWEST[FIRST]; v--) {
            trial.numbers[FIRST] = v;
            if (ways.staysWithin(trial, input, a)) {
                return v;
            }
        }
        return NONE;
    }

    public long lost(int input, int part) {
        if (!isInput(input) || !isPart(part)) {
            return VOID;
        }
        trial.take(filter);
        int pasts = filter.howManyPasts();
        long together = 0;
        for (int start = 0; start < pasts; start++) {
            trial.unpack(start);
            trial.weigh(input);
            together += Math.abs(trial.loss);
        }
        return inLowestTerms(together, (long) filter.unit() * pasts, part);
    }

    // ---- told outputs

    public int fits(int in, int out, int what) {
        if (!isRow(in) || !isRow(out) || what < 0 || what >= TRIED.length) {
            return NO;
        }
        if (isMissing(in) || isMissing(out)) {
            return MISSED;
        }
        int slot = TRIED[what];
        int bits = 0;
        int many = 0;
        int least = NONE;
        for (int v = HIGHEST[slot]; v >= LOWEST[slot]; v--) {
            trial.take(filter);
            trial.numbers[slot] = v;
            course.follow(trial, rows[in]);
            if (course.hasAsFirst(rows[out])) {
                many++;
                least = v;
                bits |= 1 << (v & 31);
            }
        }
        return what < 4 ? bits : what == 4 ? many : least;
    }

    public int judge(int in, int out) {
        if (!isRow(in) || !isRow(out)) {
            return BAD;
        }
        if (isMissing(in) || isMissing(out)) {
            return MISSING;
        }
        followInThought(in);
        int told = rows[out].size;
        int like = course.howManyLike(rows[out]);
        if (like < told) {
            return like;
        }
        return told < course.length ? 100 + told : NOT;
    }

    // ---- the tape

    public int feed(int letter) {
        if (letter < 32 || letter > 126) {
            return BAD;
        }
        if (tape.size < 0 || tape.size >= TAPE) {
            return FULL;
        }
        tape.bytes[tape.size] = (byte) letter;
        tape.size++;
        return tape.size;
    }

    public int wipe() {
        int had = tape.size;
        tape.size = 0;
        return had;
    }

    public int read() {
        int fault = tape.findFault();
        tape.size = 0;
        if (fault >= 0) {
            return -100 - fault;
        }
        for (int i = 0; i < tape.acts && i < TAPE; i++) {
            if (perform(tape.letters[i], tape.firsts[i], tape.seconds[i]) <= NO) {
                return -200 - i;
            }
        }
        return tape.acts;
    }

    // ---- rows

    public int row(int row, int sort, int n) {
        if (!isRow(row) || sort < -1 || sort > 2) {
            return BAD;
        }
        if (sort >= 0 && n > PLACES) {
            return BAD;
        }
        if (sort >= 0 && n < 0) {
            return TOO_SMALL;
        }
        rows[row].begin(sort, sort < 0 ? 0 : n);
        return 1;
    }

    public int put(int row, int i, long v) {
        if (!isRow(row)) {
            return BAD;
        }
        if (isMissing(row)) {
            return MISSING;
        }
        if (!rows[row].has(i)) {
            return OUTSIDE;
        }
        rows[row].store(i, v);
        return 1;
    }

    public long get(int row, int i) {
        if (!isRow(row) || isMissing(row) || !rows[row].has(i)) {
            return VOID;
        }
        return rows[row].places[i];
    }

    public int film(int row, int sort, int in) {
        if (!isRow(row) || !isRow(in) || sort < 0 || sort > 2) {
            return BAD;
        }
        if (isMissing(in)) {
            return MISSING;
        }
        followInThought(in);
        rows[row].begin(sort, course.length);
        for (int i = 0; i < course.length && i < PLACES; i++) {
            rows[row].store(i, course.outputs[i]);
        }
        return course.length;
    }

    public int copy(int row, int i, int other, int j, int n) {
        if (!isRow(row) || !isRow(other)) {
            return BAD;
        }
        Row from = rows[row];
        Row to = rows[other];
        if (from.sort < 0 || to.sort < 0) {
            return MISSING;
        }
        if (from.sort != to.sort) {
            return UNLIKE;
        }
        if (n < 0 || i < 0 || j < 0 || n > from.size || i > from.size - n || n > to.size || j > to.size - n) {
            return OUTSIDE;
        }
        System.arraycopy(from.places, i, to.places, j, n);
        return n;
    }

    // ---- acts, changes, the image

    public int act(int rounding, int act, int x) {
        if (!isKind(rounding) || act < LIFTS || act > TELLS) {
            return 0;
        }
        bodies.ran = 0;
        return Bodies.answer(bodies, rounding, rounding, act, x, 0);
    }

    public int trace(int i) {
        return i < 0 || i >= bodies.ran || i >= TRACE ? NOT : bodies.trace[i];
    }

    public int isUnder(int overflow, int k) {
        if (!isKind(overflow) || !isKind(k)) {
            return BAD;
        }
        int kind = overflow;
        for (int i = 0; i < KINDS && isKind(kind); i++) {
            if (kind == k) {
                return 1;
            }
            kind = OVERFLOW_ABOVE[kind];
        }
        return 0;
    }

    public int undo() {
        int at = changes.stepBack();
        if (at < 0 || at >= CHANGES) {
            return STATE;
        }
        filter.become(changes.slots[at], changes.olds[at]);
        return changes.done;
    }

    public int redo() {
        int at = changes.stepOn();
        if (at < 0 || at >= CHANGES) {
            return STATE;
        }
        filter.become(changes.slots[at], changes.news[at]);
        return changes.undone;
    }

    public int image() {
        kept.take(filter);
        hasImage = true;
        return filter.packed();
    }

    public int alike() {
        if (!hasImage) {
            return STATE;
        }
        return filter.hasNumbersOf(kept) && filter.hasWordsOf(kept) ? 1 : 0;
    }

    public int back() {
        if (!hasImage) {
            return STATE;
        }
        filter.take(kept);
        changes.forget();
        return filter.packed();
    }

    public int count(int what) {
        switch (what) {
            case 0: return changes.done;
            case 1: return changes.undone;
            case 2: return tape.size;
            case 3: return rowsThere();
            case 4: return stepsDone;
            default: return BAD;
        }
    }

    // ---- what several calls share

    private static boolean isInput(int input) {
        return input >= -MOST_INPUT && input <= MOST_INPUT;
    }

    private static boolean isKind(int kind) {
        return kind >= 0 && kind < KINDS;
    }

    private static boolean isPart(int part) {
        return part == 0 || part == 1;
    }

    private static boolean isRow(int row) {
        return row >= 0 && row < ROWS;
    }

    private boolean isMissing(int row) {
        return row < 0 || row >= ROWS || rows[row].sort < 0;
    }

    private boolean isWordNumber(int k) {
        return k >= 1 && k <= MOST_WORDS && k <= filter.numbers[ORDER];
    }

    private boolean isStart(int code) {
        return code >= 0 && code < filter.howManyPasts();
    }

    /** Where the number that set() and of() tell by what and number stands; -1: no such one. */
    private static int slotOf(int what, int number) {
        if (what < 0 || what > 7) {
            return -1;
        }
        if (what == 2) {
            return number >= 1 && number <= MOST_WORDS ? FIRST + number - 1 : -1;
        }
        return what < 2 ? what : what + 2;
    }

    private void followInThought(int row) {
        trial.take(filter);
        if (row >= 0 && row < ROWS) {
            course.follow(trial, rows[row]);
        }
    }

    private void tellCauses(int step, int what, int number) {
        causes[0] = step;
        causes[1] = what;
        causes[2] = number;
        hasCauses = true;
    }

    private int rowsThere() {
        int there = 0;
        for (int row = 0; row < ROWS; row++) {
            if (!isMissing(row)) {
                there++;
            }
        }
        return there;
    }

    /** What the call that an act of a text stands for answers: a refusal is NO or below, and no number that is set is. */
    private int perform(int letter, int first, int second) {
        if (letter == LETTER_X) {
            return step(first);
        }
        if (letter == LETTER_Y) {
            return past(first, second);
        }
        return letter == LETTER_C ? set(letter, first, second) : set(letter, 0, first);
    }

    /** Halving is enough: what stands below the line here is always a power of 2. */
    private static long inLowestTerms(long above, long below, int part) {
        for (int i = 0; i < 62 && below > 1 && (above & 1) == 0; i++) {
            above /= 2;
            below /= 2;
        }
        return part == 0 ? above : below;
    }

    /** The numbers of a filter and the past, and what the latest step that was weighed comes to. */
    private static final class Filter {
        final int[] numbers = {2, 4, 0, 0, 0, 1, 0, 0, 0, 0};
        /** WORD 1 first; those beyond the order stay 0, so that two pasts can be compared whole. */
        final int[] words = {0, 0, 0};
        int all = 0;
        int v = 0;
        int loss = 0;
        int result = 0;
        boolean over = false;
        private int heldAll = 0;
        private int heldRounded = 0;

        Filter() {
        }

        int unit() {
            return 1 << numbers[SHIFT];
        }

        int half() {
            return 1 << (numbers[BITS] - 1);
        }

        int howManyPasts() {
            return 1 << (numbers[ORDER] * numbers[BITS]);
        }

        boolean holds(int number) {
            return number >= -half() && number < half();
        }

        boolean isTooLargeWith(int slot, int number) {
            int order = slot == ORDER ? number : numbers[ORDER];
            int bits = slot == BITS ? number : numbers[BITS];
            return order * bits > 10;
        }

        void become(int slot, int number) {
            if (slot < 0 || slot >= NUMBERS || numbers[slot] == number) {
                return;
            }
            numbers[slot] = number;
            if (slot == ORDER || slot == BITS) {
                for (int k = 0; k < words.length; k++) {
                    words[k] = 0;
                }
            }
        }

        void take(Filter other) {
            System.arraycopy(other.numbers, 0, numbers, 0, NUMBERS);
            System.arraycopy(other.words, 0, words, 0, MOST_WORDS);
        }

        boolean hasNumbersOf(Filter other) {
            for (int slot = 0; slot < NUMBERS; slot++) {
                if (numbers[slot] != other.numbers[slot]) {
                    return false;
                }
            }
            return true;
        }

        boolean hasWordsOf(Filter other) {
            for (int k = 0; k < MOST_WORDS; k++) {
                if (words[k] != other.words[k]) {
                    return false;
                }
            }
            return true;
        }

        /** The CODE of the past. */
        int packed() {
            int packed = 0;
            for (int k = 0; k < numbers[ORDER] && k < MOST_WORDS; k++) {
                packed = (packed << numbers[BITS]) + words[k] + half();
            }
            return packed;
        }

        void unpack(int packed) {
            int left = packed;
            for (int k = Math.min(numbers[ORDER], MOST_WORDS) - 1; k >= 0; k--) {
                words[k] = (left & (2 * half() - 1)) - half();
                left >>= numbers[BITS];
            }
        }

        /** WORD 1 of the past with that CODE. */
        int latestIn(int packed) {
            return (packed >> (numbers[BITS] * (numbers[ORDER] - 1))) - half();
        }

        /** The CODE of the past behind the step that was weighed, from that of the past ahead of it. */
        int codeBehind(int packed) {
            return ((result + half()) << (numbers[BITS] * (numbers[ORDER] - 1))) + (packed >> numbers[BITS]);
        }

        void weigh(int input) {
            gather();
            weighGathered(input);
        }

        /** Apart from weighGathered(), so that many inputs can be weighed from one past. */
        void gather() {
            heldAll = 0;
            heldRounded = 0;
            for (int k = 0; k < numbers[ORDER] && k < MOST_WORDS; k++) {
                int product = numbers[FIRST + k] * words[k];
                heldAll += product;
                if (numbers[PLACE] == 1) {
                    heldRounded += toWhole(numbers[ROUNDING], numbers[SHIFT], product);
                }
            }
        }

        void weighGathered(int input) {
            int product = numbers[IN] * input;
            all = heldAll + product;
            if (numbers[PLACE] == 1) {
                v = heldRounded + toWhole(numbers[ROUNDING], numbers[SHIFT], product);
            } else {
                v = toWhole(numbers[ROUNDING], numbers[SHIFT], all);
            }
            loss = v * unit() - all;
            over = !holds(v);
            result = toWord(numbers[OVERFLOW], v);
        }

        /** The output that was weighed becomes WORD 1. */
        void push() {
            for (int k = Math.min(numbers[ORDER], MOST_WORDS) - 1; k > 0; k--) {
                words[k] = words[k - 1];
            }
            words[0] = result;
        }

        static int toWhole(int rounding, int shift, int number) {
            int down = number >> shift;
            int rest = number - (down << shift);
            if (rest == 0) {
                return down;
            }
            int farFromMiddle = 2 * rest - (1 << shift);
            switch (rounding) {
                case 1: return number < 0 ? down + 1 : down;
                case 2: return farFromMiddle >= 0 ? down + 1 : down;
                case 3: return farFromMiddle == 0 ? down + (down & 1) : farFromMiddle > 0 ? down + 1 : down;
                case 4: return number < 0 ? down : down + 1;
                default: return down;
            }
        }

        /** The WORD that comes of a number; HALTED, which is no WORD, if none does. */
        int toWord(int overflow, int number) {
            int half = half();
            if (number >= -half && number < half) {
                return number;
            }
            switch (overflow) {
                case 1: return number < 0 ? -half : half - 1;
                case 2: return 0;
                case 3: return words[0];
                case 4: return HALTED;
                default: return ((number + half) & (2 * half - 1)) - half;
            }
        }
    }

    /** The RUN of a ROW. */
    private static final class Course {
        final int[] outputs = new int[PLACES];
        final int[] losses = new int[PLACES];
        int length = 0;
        int overs = 0;
        boolean halted = false;
        int haltedBy = 0;

        Course() {
        }

        /** The steps are done truly by the filter that is told: it is a copy, where they are only thought. */
        void follow(Filter by, Row row) {
            length = 0;
            overs = 0;
            halted = false;
            for (int i = 0; i < row.size && i < PLACES && !halted; i++) {
                by.weigh(row.inputAt(i));
                if (by.over) {
                    overs++;
                }
                if (by.result == HALTED) {
                    halted = true;
                    haltedBy = by.v;
                } else {
                    by.push();
                    outputs[i] = by.result;
                    losses[i] = by.loss;
                    length++;
                }
            }
        }

        int lossesTogether() {
            int together = 0;
            for (int i = 0; i < length && i < PLACES; i++) {
                together += Math.abs(losses[i]);
            }
            return together;
        }

        private boolean isFirstOfItsLevel(int place) {
            for (int i = 0; i < place && i < PLACES; i++) {
                if (losses[i] == losses[place]) {
                    return false;
                }
            }
            return true;
        }

        int howManyLevels() {
            int many = 0;
            for (int i = 0; i < length && i < PLACES; i++) {
                if (isFirstOfItsLevel(i)) {
                    many++;
                }
            }
            return many;
        }

        /** The place of the first loss of level k; -1: no such level. */
        int placeOfLevel(int k) {
            int level = -1;
            for (int i = 0; i < length && i < PLACES; i++) {
                if (isFirstOfItsLevel(i)) {
                    level++;
                    if (level == k) {
                        return i;
                    }
                }
            }
            return -1;
        }

        int howOften(int loss) {
            int often = 0;
            for (int i = 0; i < length && i < PLACES; i++) {
                if (losses[i] == loss) {
                    often++;
                }
            }
            return often;
        }

        /** How many of the first outputs are as the row tells them. */
        int howManyLike(Row told) {
            int like = 0;
            for (int i = 0; i < length && i < told.size && i < PLACES && like == i; i++) {
                if (told.places[i] == outputs[i]) {
                    like++;
                }
            }
            return like;
        }

        boolean hasAsFirst(Row told) {
            return howManyLike(told) == told.size;
        }
    }

    /** Where all starts lead by one input. A CYCLE is told by the least CODE on it. */
    private static final class Ways {
        static final int STUCK = -1;
        private static final int UNSEEN = -1, WALKED = -2;
        private final Filter by = new Filter();
        private final int[] onward = new int[MOST_STARTS];
        private final int[] tails = new int[MOST_STARTS];
        private final int[] comesTo = new int[MOST_STARTS];
        private int size = 0;
        private int told = 0;
        private boolean whole = false;
        private boolean anyStuck = false;
        private int loudest = -1;

        Ways() {
        }

        /** What was drawn last is kept: many calls in a row ask for the same numbers and input. */
        void draw(Filter filter, int input) {
            if (whole && told == input && by.hasNumbersOf(filter)) {
                return;
            }
            begin(filter, input);
            for (int code = 0; code < size; code++) {
                settle(code);
            }
            whole = true;
        }

        /** Whether no start is stuck and no cycle has an amplitude above most. */
        boolean staysWithin(Filter filter, int input, int most) {
            begin(filter, input);
            for (int code = 0; code < size; code++) {
                settle(code);
                if (anyStuck || loudest > most) {
                    return false;
                }
            }
            whole = true;
            return true;
        }

        private void begin(Filter filter, int input) {
            by.take(filter);
            told = input;
            size = Math.min(by.howManyPasts(), MOST_STARTS);
            whole = false;
            anyStuck = false;
            loudest = -1;
            for (int code = 0; code < size; code++) {
                tails[code] = UNSEEN;
            }
        }

        private boolean is(int code) {
            return code >= 0 && code < size && code < MOST_STARTS;
        }

        /** Walks from a start until it comes to what is settled, to a halt, or upon its own way. */
        private void settle(int start) {
            int at = start;
            for (int i = 0; i < size && is(at) && tails[at] == UNSEEN; i++) {
                tails[at] = WALKED;
                by.unpack(at);
                by.weigh(told);
                onward[at] = by.result == HALTED ? STUCK : by.codeBehind(at);
                at = onward[at];
            }
            if (is(at) && tails[at] == WALKED) {
                closeCycle(at);
            }
            joinWay(start);
        }

        private void closeCycle(int entry) {
            int least = entry;
            int at = entry;
            for (int i = 0; i < size && is(at) && (i == 0 || at != entry); i++) {
                least = Math.min(least, at);
                loudest = Math.max(loudest, Math.abs(by.latestIn(at)));
                at = onward[at];
            }
            for (int i = 0; i < size && is(at) && tails[at] == WALKED; i++) {
                tails[at] = 0;
                comesTo[at] = least;
                at = onward[at];
            }
        }

        /** What of a walk is still unsettled comes to what the walk ended at. */
        private void joinWay(int start) {
            int steps = 0;
            int at = start;
            for (int i = 0; i < size && is(at) && tails[at] == WALKED; i++) {
                steps++;
                at = onward[at];
            }
            int cycle = is(at) ? comesTo[at] : STUCK;
            int tail = is(at) ? tails[at] + steps : steps;
            anyStuck = anyStuck || cycle == STUCK;
            at = start;
            for (int i = 0; i < steps && is(at); i++) {
                comesTo[at] = cycle;
                tails[at] = tail - i;
                at = onward[at];
            }
        }

        private boolean isOnCycle(int code) {
            return is(code) && comesTo[code] != STUCK && tails[code] == 0;
        }

        int cycleFrom(int start) {
            return is(start) ? comesTo[start] : STUCK;
        }

        int tailFrom(int start) {
            return is(start) ? tails[start] : 0;
        }

        /** How many cycles have a lesser least CODE. */
        int numberOf(int cycle) {
            int lesser = 0;
            for (int code = 0; code < cycle && is(code); code++) {
                if (comesTo[code] == code) {
                    lesser++;
                }
            }
            return lesser;
        }

        int cycleNumbered(int k) {
            int number = -1;
            for (int code = 0; code < size && is(code); code++) {
                if (comesTo[code] == code) {
                    number++;
                    if (number == k) {
                        return code;
                    }
                }
            }
            return STUCK;
        }

        int periodOf(int cycle) {
            int period = 0;
            for (int code = 0; code < size; code++) {
                if (isOnCycle(code) && comesTo[code] == cycle) {
                    period++;
                }
            }
            return period;
        }

        int amplitudeOf(int cycle) {
            int most = 0;
            for (int code = 0; code < size; code++) {
                if (isOnCycle(code) && comesTo[code] == cycle) {
                    most = Math.max(most, Math.abs(by.latestIn(code)));
                }
            }
            return most;
        }

        /** From how many starts one comes to a cycle; of STUCK, how many are. */
        int basinOf(int cycle) {
            int basin = 0;
            for (int code = 0; code < size && is(code); code++) {
                if (comesTo[code] == cycle) {
                    basin++;
                }
            }
            return basin;
        }

        int behindOnCycle(int cycle, int steps) {
            int period = periodOf(cycle);
            int left = period > 0 ? steps % period : 0;
            int at = cycle;
            for (int i = 0; i < left && is(at); i++) {
                at = onward[at];
            }
            return at;
        }

        int longestTail() {
            int longest = 0;
            for (int code = 0; code < size && is(code); code++) {
                if (comesTo[code] != STUCK) {
                    longest = Math.max(longest, tails[code]);
                }
            }
            return longest;
        }

        int loudestOfAll() {
            return loudest < 0 ? LOUD : loudest;
        }

        int howManyOnCycles() {
            int many = 0;
            for (int code = 0; code < size; code++) {
                if (isOnCycle(code)) {
                    many++;
                }
            }
            return many;
        }
    }

    /** The pasts that can come from that of all 0. */
    private static final class Spread {
        private final int[] queue = new int[MOST_STARTS];
        private final boolean[] seen = new boolean[MOST_STARTS];
        int found = 0;
        boolean over = false;

        Spread() {
        }

        /** Where only whether a step is over is asked, the first such step ends the search. */
        void search(Filter by, int most, boolean endsWhenOver) {
            for (int code = 0; code < MOST_STARTS; code++) {
                seen[code] = false;
            }
            found = 0;
            over = false;
            find(zeroIn(by));
            for (int i = 0; i < found && i < MOST_STARTS && !(over && endsWhenOver); i++) {
                leadOn(by, queue[i], most);
            }
        }

        private static int zeroIn(Filter by) {
            for (int k = 0; k < MOST_WORDS; k++) {
                by.words[k] = 0;
            }
            return by.packed();
        }

        private void leadOn(Filter by, int from, int most) {
            by.unpack(from);
            by.gather();
            for (int input = -most; input <= most; input++) {
                by.weighGathered(input);
                over = over || by.over;
                if (by.result != HALTED) {
                    find(by.codeBehind(from));
                }
            }
        }

        private void find(int code) {
            if (code >= 0 && code < MOST_STARTS && !seen[code] && found < MOST_STARTS) {
                seen[code] = true;
                queue[found] = code;
                found++;
            }
        }
    }

    /** A row of numbers; its sort -1 says that it is missing. */
    private static final class Row {
        final long[] places = new long[PLACES];
        int sort = -1;
        int size = 0;

        Row() {
        }

        void begin(int newSort, int newSize) {
            sort = newSort;
            size = Math.max(0, Math.min(newSize, PLACES));
            for (int i = 0; i < PLACES; i++) {
                places[i] = 0;
            }
        }

        boolean has(int i) {
            return i >= 0 && i < size && i < PLACES;
        }

        void store(int i, long v) {
            if (has(i)) {
                places[i] = sort == 0 ? (byte) v : sort == 1 ? (int) v : v;
            }
        }

        int inputAt(int i) {
            return has(i) ? (int) Math.max(-MOST_INPUT, Math.min(MOST_INPUT, places[i])) : 0;
        }
    }

    /** What can be undone, the eldest first, and behind it what can be done again, the next first. */
    private static final class Changes {
        final int[] slots = new int[CHANGES];
        final int[] olds = new int[CHANGES];
        final int[] news = new int[CHANGES];
        int done = 0;
        int undone = 0;

        Changes() {
        }

        void add(int slot, int old, int now) {
            if (done >= CHANGES) {
                dropEldest();
            }
            if (done >= 0 && done < CHANGES) {
                slots[done] = slot;
                olds[done] = old;
                news[done] = now;
                done++;
            }
            undone = 0;
        }

        private void dropEldest() {
            for (int i = 1; i < CHANGES; i++) {
                slots[i - 1] = slots[i];
                olds[i - 1] = olds[i];
                news[i - 1] = news[i];
            }
            done = CHANGES - 1;
        }

        /** Where the change stands that is undone now; -1: none can be. */
        int stepBack() {
            if (done <= 0) {
                return -1;
            }
            done--;
            undone++;
            return done;
        }

        /** Where the change stands that is done again now; -1: none can be. */
        int stepOn() {
            if (undone <= 0) {
                return -1;
            }
            done++;
            undone--;
            return done - 1;
        }

        void forget() {
            done = 0;
            undone = 0;
        }
    }

    /** The tape, and the acts of the text that it held when it was looked at last. */
    private static final class Tape {
        private static final int AT_LETTER = 0, AT_NUMBER = 1, BEHIND_SIGN = 2, BEHIND_ONE = 3, BEHIND_TWO = 4;
        final byte[] bytes = new byte[TAPE];
        int size = 0;
        final int[] letters = new int[TAPE];
        final int[] firsts = new int[TAPE];
        final int[] seconds = new int[TAPE];
        int acts = 0;
        private int state = AT_LETTER;
        private int numbersLeft = 0;
        private boolean inSecond = false;
        private boolean isBelow = false;

        Tape() {
        }

        /** The place of the first byte with which no text goes on, or the length; -1: it is a text. */
        int findFault() {
            acts = 0;
            state = AT_LETTER;
            for (int i = 0; i < size && i < TAPE; i++) {
                if (!goesOnWith(bytes[i])) {
                    return i;
                }
            }
            return endsNumber() && numbersLeft == 0 ? -1 : size;
        }

        private boolean goesOnWith(int letter) {
            switch (state) {
                case AT_LETTER: return beginsAct(letter);
                case AT_NUMBER: return beginsNumber(letter);
                case BEHIND_SIGN: return addsFigure(letter, BEHIND_ONE);
                case BEHIND_ONE: return addsFigure(letter, BEHIND_TWO) || endsNumberWith(letter);
                default: return endsNumberWith(letter);
            }
        }

        private boolean endsNumber() {
            return state == BEHIND_ONE || state == BEHIND_TWO;
        }

        private boolean beginsAct(int letter) {
            int which = LETTERS.indexOf((char) letter);
            if (which < 0 || acts < 0 || acts >= TAPE) {
                return false;
            }
            letters[acts] = which;
            firsts[acts] = 0;
            seconds[acts] = 0;
            acts++;
            numbersLeft = which == LETTER_C || which == LETTER_Y ? 1 : 0;
            inSecond = false;
            isBelow = false;
            state = AT_NUMBER;
            return true;
        }

        private boolean beginsNumber(int letter) {
            if (letter == '-') {
                isBelow = true;
                state = BEHIND_SIGN;
                return true;
            }
            return addsFigure(letter, BEHIND_ONE);
        }

        private boolean addsFigure(int letter, int then) {
            int at = acts - 1;
            if (letter < '0' || letter > '9' || at < 0 || at >= TAPE) {
                return false;
            }
            int figure = isBelow ? '0' - letter : letter - '0';
            if (inSecond) {
                seconds[at] = seconds[at] * 10 + figure;
            } else {
                firsts[at] = firsts[at] * 10 + figure;
            }
            state = then;
            return true;
        }

        private boolean endsNumberWith(int letter) {
            if (letter == ',' && numbersLeft > 0) {
                numbersLeft = 0;
                inSecond = true;
                isBelow = false;
                state = AT_NUMBER;
                return true;
            }
            if (letter == ';' && numbersLeft == 0) {
                state = AT_LETTER;
                return true;
            }
            return false;
        }
    }

    /** The bodies of the roundings' acts, and which of them ran. */
    private static final class Bodies {
        final int[] trace = new int[TRACE];
        int ran = 0;

        Bodies() {
        }

        /** What the first body of an act that a kind, or one above it, has answers for the rounding own. */
        private static int answer(Bodies kept, int own, int from, int act, int x, int depth) {
            int body = find(from, act);
            if (body == 0 || depth > DEEPEST) {
                return 0;
            }
            kept.keep(body);
            int above = aboveBody(body);
            switch (body) {
                case 10: return x + own;
                case 11: return answer(kept, own, own, LIFTS, x, depth + 1) * 2;
                case 12: return answer(kept, own, own, LOWERS, x, depth + 1) - own;
                case 20: return answer(kept, own, above, LOWERS, x, depth + 1) ^ 5;
                case 30: return -answer(kept, own, above, LIFTS, x, depth + 1);
                case 40: return answer(kept, own, above, TELLS, x + 1, depth + 1);
                case 41: return answer(kept, own, above, LIFTS, x, depth + 1) * 3;
                case 50: return answer(kept, own, above, LOWERS, x, depth + 1)
                        + answer(kept, own, own, LIFTS, 2, depth + 1);
                default: return 0;
            }
        }

        private static int find(int from, int act) {
            int kind = from;
            for (int i = 0; i < KINDS && kind >= 0 && kind < KINDS; i++) {
                int at = 3 * kind + act;
                if (at >= 0 && at < BODIES.length && BODIES[at] != 0) {
                    return BODIES[at];
                }
                kind = ROUNDING_ABOVE[kind];
            }
            return 0;
        }

        /** The kind above the one that a body is of; -1: none. */
        private static int aboveBody(int body) {
            int kind = body / 10 - 1;
            return kind < 0 || kind >= KINDS ? -1 : ROUNDING_ABOVE[kind];
        }

        private void keep(int body) {
            if (ran >= 0 && ran < TRACE) {
                trace[ran] = body;
                ran++;
            }
        }
    }
}
