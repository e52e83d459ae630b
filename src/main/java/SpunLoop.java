import java.util.Arrays;

/**
 * A loop that stays open: the document ../shared/DOC.md says what each call answers. All rows that
 * calls work on are made once, in constructors, because all calls of a run share one small room.
 */
public final class SpunLoop {
    public static final int NONE = -1000000;
    public static final long NOT = -9000000000000000000L;

    private static final long BAD = NOT - 1;
    private static final long STATE = NOT - 2;
    private static final long FULL = NOT - 3;

    private static final int MISSING_ROW = 1;
    private static final int NO_PLACE = 2;
    private static final int OTHER_KIND = 3;
    private static final int BELOW_NONE = 4;
    private static final int TWO_LANES = 5;

    private static final int IMAGES = 2;
    private static final int MOST_PULL = 999999;

    private final Rows rows;
    private final Reader reader;
    private final Scene scene;
    private final Scene[] images;
    private final Toss toss;
    private final Runner runner;
    private final Seeker seeker;
    private final Planner planner;
    private final Asker asker;
    private Reach reach;
    private int finding;

    public SpunLoop() {
        rows = new Rows();
        reader = new Reader();
        scene = new Scene();
        images = new Scene[IMAGES];
        for (int k = 0; k < IMAGES; k++) {
            images[k] = new Scene();
        }
        toss = new Toss();
        runner = new Runner();
        seeker = new Seeker();
        planner = new Planner();
        asker = new Asker();
        reach = null;
        finding = 0;
    }

    // ---- rows

    public long row(int row, int lane, int n) {
        if (!Rows.isRow(row) || !within(lane, 0, 2) || n > Rows.LONGEST) {
            return BAD;
        }
        if (n < 0) {
            return found(BELOW_NONE);
        }
        rows.make(row, lane, n);
        return fine(n);
    }

    public long set(int row, int i, int v) {
        if (!Rows.isRow(row)) {
            return BAD;
        }
        if (rows.isMissing(row)) {
            return found(MISSING_ROW);
        }
        if (!rows.hasPlaces(row, i, 1)) {
            return found(NO_PLACE);
        }
        return fine(rows.put(row, i, v));
    }

    public long copy(int a, int i, int b, int j, int n) {
        if (!Rows.isRow(a) || !Rows.isRow(b)) {
            return BAD;
        }
        if (rows.isMissing(a) || rows.isMissing(b)) {
            return found(MISSING_ROW);
        }
        if (rows.laneOf(a) != rows.laneOf(b)) {
            return found(TWO_LANES);
        }
        if (!rows.hasPlaces(a, i, n) || !rows.hasPlaces(b, j, n)) {
            return found(NO_PLACE);
        }
        rows.carry(a, i, b, j, n);
        return fine(n);
    }

    public long drop(int row) {
        if (!Rows.isRow(row)) {
            return BAD;
        }
        if (rows.isMissing(row)) {
            return found(MISSING_ROW);
        }
        return fine(rows.remove(row));
    }

    // ---- ways

    public long feed(long w, int n) {
        if (!within(n, 1, 8)) {
            return BAD;
        }
        return reader.append(w, n) ? reader.bytes() : FULL;
    }

    public long way() {
        if (!reader.read()) {
            return NOT - 100 - reader.faultPlace();
        }
        scene.begin(reader.draft());
        return scene.way.howMany(Way.ACT);
    }

    public int fault() {
        return reader.latestFault();
    }

    public long act(int act, int what) {
        if (!hasAct(act) || !within(what, 0, 3)) {
            return BAD;
        }
        if (scene.way.isA(act, Way.LOOPED) || (scene.way.isA(act, Way.THROWN) && what == 0)) {
            return scene.way.value(Way.ACT, act, Way.TICKS + what);
        }
        return NONE;
    }

    public long take(int rope, int horse) {
        if (!scene.way.has(Way.ROPE, rope) || !(horse == NONE || scene.way.has(Way.HORSE, horse))) {
            return BAD;
        }
        scene.takeUp(rope, horse);
        return 1;
    }

    // ---- the live loop

    public long tick(int manner, int up, int let, int turn) {
        if (!within(manner, 0, 1) || !within(up, 0, 4) || !within(let, 0, 9) || !within(turn, 0, 15)) {
            return BAD;
        }
        if (!scene.there || scene.loop.hasFallen()) {
            return STATE;
        }
        scene.loop.advance(scene, manner == 1, up, let, turn);
        return scene.loop.why;
    }

    public long hurl(int how, int beast) {
        if (!canThrow(how, beast)) {
            return BAD;
        }
        toss.aim(scene, scene.loop, how, beast);
        scene.loop.fallToHand();
        return toss.missed > 0 ? toss.missed : -toss.left - 1;
    }

    public long close() {
        if (!scene.there) {
            return STATE;
        }
        scene.loop.gather();
        return scene.loop.tick;
    }

    public long now(int what) {
        if (!within(what, 0, 6)) {
            return BAD;
        }
        if (!scene.there) {
            return STATE;
        }
        return what == 6 ? scene.loop.why : scene.loop.tell(what);
    }

    public long piece(int i) {
        if (!scene.there) {
            return STATE;
        }
        if (i < 0 || i >= scene.pieces()) {
            return BAD;
        }
        return scene.loop.whereIs(i);
    }

    public long odds(int how, int beast, int what) {
        if (!canThrow(how, beast) || !within(what, 0, 1)) {
            return BAD;
        }
        toss.aim(scene, scene.loop, how, beast);
        return lowest(toss.sum, toss.whole, what);
    }

    // ---- open, twist, wraps

    public long need(int size) {
        if (!within(size, 0, 200)) {
            return BAD;
        }
        return scene.there ? scene.needOf(size) : STATE;
    }

    public long greatest(int spin) {
        if (!within(spin, 0, 15)) {
            return BAD;
        }
        return scene.there ? scene.greatestOpen(spin) : STATE;
    }

    public long out(int spin, int n) {
        if (!within(spin, 0, 15) || !within(n, 1, 40)) {
            return BAD;
        }
        return scene.there ? scene.leastTurn(spin, n) : STATE;
    }

    public long wraps(int pull, int grip) {
        if (!within(pull, 1, MOST_PULL) || !within(grip, 1, 99)) {
            return BAD;
        }
        int held = grip;
        for (int w = 0; w <= 9; w++) {
            if (held >= pull) {
                return w;
            }
            held *= 3;
        }
        return NONE;
    }

    // ---- runs

    public long told(int act, int what) {
        if (!scene.there) {
            return STATE;
        }
        if ((act != -1 && !hasAct(act)) || !within(what, 0, 7)) {
            return BAD;
        }
        runner.run(scene, act);
        if (what == 6) {
            return runner.missed;
        }
        return what == 7 ? runner.why : runner.loop.tell(what);
    }

    public long all(int what) {
        if (!within(what, 0, 1)) {
            return BAD;
        }
        if (!scene.there) {
            return STATE;
        }
        runner.run(scene, Way.MOST_ACTS - 1);
        if (runner.tooFine) {
            return NONE;
        }
        return what == 0 ? runner.above : runner.below;
    }

    public long score() {
        if (!scene.there) {
            return STATE;
        }
        runner.run(scene, Way.MOST_ACTS - 1);
        return runner.points;
    }

    public long best(int beast, int what) {
        if (!scene.way.has(Way.BEAST, beast) || !within(what, 0, 2)) {
            return BAD;
        }
        runner.seekBest(scene, beast);
        return what == 0 ? runner.bestThrow : lowest(runner.bestSum, runner.bestWhole, what - 1);
    }

    // ---- sought

    public long moves(int n, int i) {
        if (!within(n, 1, Planner.MOST_MOVES) || i < -1) {
            return BAD;
        }
        if (!scene.there) {
            return STATE;
        }
        int worth = planner.seekRow(scene, n);
        return i == -1 ? worth : planner.moveAt(i);
    }

    public long fewest(int size, int n) {
        if (!within(size, 1, 200) || !within(n, 0, Reach.MOST_TICKS)) {
            return BAD;
        }
        if (!scene.there) {
            return STATE;
        }
        if (reach == null) {
            reach = new Reach();
        }
        return reach.ticksTo(scene, size, n);
    }

    public long show(int i) {
        if (i < -1) {
            return BAD;
        }
        if (!scene.there) {
            return STATE;
        }
        seeker.seekShow(scene.way);
        return i == -1 ? seeker.showLength() : seeker.formAt(i);
    }

    public long learn(int from, int to, int what) {
        if (!within(from, 0, 100) || !within(to, 0, 100) || !within(what, 0, 1)) {
            return BAD;
        }
        if (!scene.there) {
            return STATE;
        }
        seeker.seekTries(scene.way, to);
        return what == 0 ? seeker.triesFrom(from) : seeker.firstRope(scene.way, from);
    }

    public long film(int row, int i, int n) {
        if (!Rows.isRow(row) || !within(n, 1, 20)) {
            return BAD;
        }
        if (!scene.there) {
            return STATE;
        }
        if (rows.isMissing(row)) {
            return found(MISSING_ROW);
        }
        if (!rows.hasPlaces(row, i, n)) {
            return found(NO_PLACE);
        }
        int hands = 0;
        for (int hand = 0; hand < Seeker.HANDS; hand++) {
            if (seeker.isHandOf(hand, scene, rows, row, i, n)) {
                hands |= 1 << hand;
            }
        }
        return fine(hands);
    }

    public long image(int k) {
        if (!within(k, 0, IMAGES - 1)) {
            return BAD;
        }
        if (!scene.there) {
            return STATE;
        }
        images[k].copyFrom(scene);
        return 1;
    }

    public long restore(int k) {
        if (!within(k, 0, IMAGES - 1)) {
            return BAD;
        }
        if (!images[k].there) {
            return STATE;
        }
        scene.copyFrom(images[k]);
        return 1;
    }

    // ---- asked

    public long kind(int act) {
        return hasAct(act) ? scene.way.kindOf(act) : BAD;
    }

    public long as(int act, int kind) {
        if (!hasAct(act) || !within(kind, 0, Way.CLOSING)) {
            return BAD;
        }
        return scene.way.isA(act, kind) ? fine(act) : found(OTHER_KIND);
    }

    public long ask(int act, int what) {
        if (!hasAct(act) || !within(what, 0, 1)) {
            return BAD;
        }
        return what == 0 ? asker.sizeOf(scene.way, act) : asker.markOf(scene.way, act);
    }

    public int trace(int i) {
        return asker.begunAt(i);
    }

    public long count(int what) {
        switch (what) {
            case 0:
                return rows.howMany();
            case 1:
                return scene.way.howMany(Way.ROPE);
            case 2:
                return scene.way.howMany(Way.HORSE);
            case 3:
                return scene.way.howMany(Way.BEAST);
            case 4:
                return scene.way.howMany(Way.FORM);
            case 5:
                return scene.way.howMany(Way.ACT);
            case 6:
                return scene.way.howManyThrows();
            case 7:
                return reader.bytes();
            case 8:
                return imagesKept();
            default:
                return BAD;
        }
    }

    public int status() {
        return finding;
    }

    private long found(int number) {
        finding = number;
        return NOT - 10 - number;
    }

    private long fine(long answer) {
        finding = 0;
        return answer;
    }

    private boolean hasAct(int act) {
        return scene.way.has(Way.ACT, act);
    }

    private boolean canThrow(int how, int beast) {
        return within(how, 0, 1) && scene.way.has(Way.BEAST, beast);
    }

    private int imagesKept() {
        int kept = 0;
        for (int k = 0; k < IMAGES; k++) {
            if (images[k].there) {
                kept++;
            }
        }
        return kept;
    }

    private static boolean within(int v, int low, int high) {
        return v >= low && v <= high;
    }

    /** The upper (what = 0) or lower number of a fraction in lowest terms. */
    private static long lowest(long above, long below, int what) {
        long divisor = commonDivisor(above, below);
        if (divisor == 0) {
            return 0;
        }
        return (what == 0 ? above : below) / divisor;
    }

    private static long commonDivisor(long a, long b) {
        long x = a;
        long y = b;
        // Euclid's way needs fewer than a hundred steps for any two longs.
        for (int steps = 0; y != 0 && steps < 100; steps++) {
            long rest = x % y;
            x = y;
            y = rest;
        }
        return x;
    }

    /** Rows 0 to 7, each with room for the longest, so that none is made by a call. */
    private static final class Rows {
        static final int LONGEST = 40;
        private static final int ROWS = 8;
        private static final int MISSING = -1;

        private final int[][] items = new int[ROWS][LONGEST];
        private final int[] lanes = new int[ROWS];
        private final int[] lengths = new int[ROWS];

        Rows() {
            Arrays.fill(lengths, MISSING);
        }

        static boolean isRow(int row) {
            return row >= 0 && row < ROWS;
        }

        boolean isMissing(int row) {
            return !isRow(row) || lengths[row] == MISSING;
        }

        int laneOf(int row) {
            return isRow(row) ? lanes[row] : NONE;
        }

        /** Are there n places from i on? (Written so that i and n of any size do not wrap.) */
        boolean hasPlaces(int row, int i, int n) {
            return !isMissing(row) && i >= 0 && n >= 0 && n <= lengths[row] && i <= lengths[row] - n;
        }

        void make(int row, int lane, int n) {
            if (isRow(row) && n >= 0 && n <= LONGEST) {
                lanes[row] = lane;
                lengths[row] = n;
                Arrays.fill(items[row], 0);
            }
        }

        int put(int row, int i, int v) {
            if (!hasPlaces(row, i, 1)) {
                return 0;
            }
            int kept = lanes[row] == 0 ? (byte) v : lanes[row] == 1 ? (short) v : v;
            items[row][i] = kept;
            return kept;
        }

        int itemAt(int row, int i) {
            return hasPlaces(row, i, 1) ? items[row][i] : 0;
        }

        void carry(int a, int i, int b, int j, int n) {
            if (hasPlaces(a, i, n) && hasPlaces(b, j, n)) {
                System.arraycopy(items[a], i, items[b], j, n);
            }
        }

        int remove(int row) {
            if (isMissing(row)) {
                return 0;
            }
            int had = lengths[row];
            lengths[row] = MISSING;
            return had;
        }

        int howMany() {
            int present = 0;
            for (int row = 0; row < ROWS; row++) {
                if (lengths[row] != MISSING) {
                    present++;
                }
            }
            return present;
        }
    }

    /** A way that was read: its things by sort and number, in one row that is easy to copy. */
    private static final class Way {
        static final int ROPE = 0;
        static final int HORSE = 1;
        static final int BEAST = 2;
        static final int FORM = 3;
        static final int RULE = 4;
        static final int ACT = 5;
        static final int MOST_ACTS = 20;
        static final int MOST_FORMS = 6;
        static final int MOST_BEASTS = 4;

        static final int LENGTH = 0;
        static final int STIFF = 1;
        static final int WET = 2;
        static final int LAG = 0;
        static final int NEAR = 1;
        static final int SHAKE = 2;
        static final int FAR = 0;
        static final int PACE = 1;
        static final int WIDE = 2;
        static final int GAIT = 3;
        static final int DUCK = 4;
        static final int SPINS = 0;
        static final int SIZES = 2;
        static final int SECONDS = 0;
        static final int HEAD = 1;
        static final int FEET = 2;
        static final int MISS = 3;
        /** An act's kind is kept ahead of its numbers, of which the first is TICKS or its beast. */
        static final int KIND = 0;
        static final int TICKS = 1;
        static final int TARGET = 1;
        static final int UP = 2;
        static final int LET = 3;
        static final int TURN = 4;

        static final int LOOPED = 1;
        static final int SPUN = 2;
        static final int STANDING = 3;
        static final int THROWN = 4;
        static final int EDGED = 5;
        static final int CLOSING = 6;
        /** Of each kind the nearest that it is, too. */
        private static final int[] WIDER = {-1, 0, 1, 1, 0, 4, 0};

        private static final int SORTS = 6;
        private static final int WIDTH = 5;
        private static final int[] FIRST = {0, 3, 6, 10, 16, 17};
        private static final int[] ROOM = {3, 3, MOST_BEASTS, MOST_FORMS, 1, MOST_ACTS};
        private static final int THINGS = 37;

        private final int[] counts = new int[SORTS];
        private final int[] values = new int[THINGS * WIDTH];

        void clear() {
            Arrays.fill(counts, 0);
            Arrays.fill(values, 0);
            put(RULE, 0, SECONDS, 200);
            put(RULE, 0, HEAD, 1);
            put(RULE, 0, FEET, 1);
        }

        void copyFrom(Way other) {
            System.arraycopy(other.counts, 0, counts, 0, SORTS);
            System.arraycopy(other.values, 0, values, 0, THINGS * WIDTH);
        }

        int howMany(int sort) {
            return sort >= 0 && sort < SORTS ? counts[sort] : 0;
        }

        boolean has(int sort, int i) {
            return i >= 0 && i < howMany(sort);
        }

        boolean isFull(int sort) {
            return sort < 0 || sort >= SORTS || counts[sort] >= ROOM[sort];
        }

        void add(int sort) {
            if (!isFull(sort)) {
                counts[sort]++;
            }
        }

        /** 0 where there is no such thing: a horse that was not told has no lag, nearness, shake. */
        int value(int sort, int i, int field) {
            if (sort < 0 || sort >= SORTS || i < 0 || i >= ROOM[sort] || field < 0 || field >= WIDTH) {
                return 0;
            }
            return values[(FIRST[sort] + i) * WIDTH + field];
        }

        void put(int sort, int i, int field, int v) {
            if (sort < 0 || sort >= SORTS || i < 0 || i >= ROOM[sort] || field < 0 || field >= WIDTH) {
                return;
            }
            values[(FIRST[sort] + i) * WIDTH + field] = v;
        }

        int kindOf(int act) {
            return value(ACT, act, KIND);
        }

        boolean isA(int act, int kind) {
            int told = kindOf(act);
            for (int steps = 0; steps < WIDER.length && told >= 0 && told < WIDER.length; steps++) {
                if (told == kind) {
                    return true;
                }
                told = WIDER[told];
            }
            return false;
        }

        /** What the rule counts for a throw at a tick. */
        int pointsFor(int how, int tick, boolean likely) {
            if (tick > value(RULE, 0, SECONDS)) {
                return 0;
            }
            if (!likely) {
                return -value(RULE, 0, MISS);
            }
            return value(RULE, 0, how == 0 ? HEAD : FEET);
        }

        int howManyThrows() {
            int thrown = 0;
            for (int a = 0; a < counts[ACT]; a++) {
                if (isA(a, THROWN)) {
                    thrown++;
                }
            }
            return thrown;
        }
    }

    /** The tape, and its reading, token by token, into a draft of a way. */
    private static final class Reader {
        private static final int TAPE = 600;

        private static final int END = 0;
        private static final int NAME = 1;
        private static final int NUMBER = 2;
        private static final int SIGN = 3;
        private static final int NO_TOKEN = 4;

        private static final int CANNOT_STAND = 1;
        private static final int NOT_AS_TOLD = 2;
        private static final int NO_ROOM = 3;

        private static final int WORDS = 10;
        private static final int FORM_WORD = 3;
        private static final int SPIN_WORD = 5;
        private static final int FLAT_WORD = 7;
        private static final int EDGE_WORD = 8;
        private static final int MOST_NUMBERS = 5;
        private static final int[] NUMBERS = {3, 3, 5, 4, 4, 4, 4, 1, 1, 0};
        private static final int[] LOW = {
            40, 0, 0, 0, 0,
            0, 0, 0, 0, 0,
            1, 0, 1, 1, 0,
            0, 0, 0, 0, 0,
            1, 0, 0, 0, 0,
            1, 0, 0, 0, 0,
            1, 0, 0, 0, 0,
            0, 0, 0, 0, 0,
            0, 0, 0, 0, 0,
            0, 0, 0, 0, 0};
        private static final int[] HIGH = {
            400, 9, 1, 0, 0,
            20, 99, 3, 0, 0,
            200, 15, 100, 9, 12,
            15, 15, 200, 200, 0,
            200, 99, 99, 99, 0,
            40, 4, 9, 15, 0,
            40, 4, 9, 15, 0,
            0, 0, 0, 0, 0,
            0, 0, 0, 0, 0,
            0, 0, 0, 0, 0};
        private static final int MOST_FIGURES = 3;

        private final byte[] tape = new byte[TAPE];
        private final Way draft = new Way();
        private int length;
        private int token;
        private int begin;
        private int end;
        private int number;
        private int fault;
        private int place;

        boolean append(long w, int n) {
            if (n < 0 || n > 8 || length > TAPE - n) {
                return false;
            }
            for (int k = n - 1; k >= 0; k--) {
                tape[length] = (byte) (w >>> (8 * k));
                length++;
            }
            return true;
        }

        int bytes() {
            return length;
        }

        int latestFault() {
            return fault;
        }

        int faultPlace() {
            return place;
        }

        Way draft() {
            return draft;
        }

        /** Reads the tape into the draft and empties it; false: there is a new fault. */
        boolean read() {
            draft.clear();
            end = 0;
            next();
            boolean good = readText();
            length = 0;
            return good;
        }

        private boolean readText() {
            int stage = Way.ROPE;
            // Each round takes a word, so there are fewer rounds than bytes.
            for (int round = 0; round <= TAPE; round++) {
                boolean roped = draft.howMany(Way.ROPE) > 0;
                if (token == END && roped) {
                    return true;
                }
                int word = token == NAME ? wordHere() : WORDS;
                int sort = Math.min(word, Way.ACT);
                boolean secondRule = sort == Way.RULE && draft.isFull(Way.RULE);
                if (word >= WORDS || sort < stage || (sort > Way.ROPE && !roped) || secondRule) {
                    return fail(CANNOT_STAND);
                }
                if (draft.isFull(sort)) {
                    return fail(NO_ROOM);
                }
                stage = sort;
                if (!readThing(word, sort)) {
                    return false;
                }
            }
            return false;
        }

        private boolean readThing(int word, int sort) {
            int i = draft.howMany(sort);
            int first = sort == Way.ACT ? Way.TICKS : 0;
            next();
            for (int k = 0; k < NUMBERS[word]; k++) {
                if (token != NUMBER) {
                    return fail(CANNOT_STAND);
                }
                if (number < lowOf(word, k, i) || number > highOf(word, k)) {
                    return fail(NOT_AS_TOLD);
                }
                draft.put(sort, i, first + k, number);
                next();
            }
            if (token != SIGN) {
                return fail(CANNOT_STAND);
            }
            if (sort == Way.ACT) {
                draft.put(Way.ACT, i, Way.KIND, word - SPIN_WORD + Way.SPUN);
            }
            draft.add(sort);
            next();
            return true;
        }

        private int lowOf(int word, int k, int i) {
            boolean secondOfPair = word == FORM_WORD && k % 2 == 1;
            return secondOfPair ? draft.value(Way.FORM, i, k - 1) : LOW[word * MOST_NUMBERS + k];
        }

        private int highOf(int word, int k) {
            boolean beast = word == FLAT_WORD || word == EDGE_WORD;
            return beast ? draft.howMany(Way.BEAST) - 1 : HIGH[word * MOST_NUMBERS + k];
        }

        private boolean fail(int found) {
            fault = found;
            place = begin;
            return false;
        }

        private void next() {
            begin = end;
            while (begin < length && (tape[begin] == ' ' || tape[begin] == '\n')) {
                begin++;
            }
            end = begin;
            if (begin >= length) {
                token = END;
            } else if (isLetter(begin)) {
                token = NAME;
                while (end < length && isLetter(end)) {
                    end++;
                }
            } else if (isFigure(begin)) {
                takeNumber();
            } else {
                token = tape[begin] == ';' ? SIGN : NO_TOKEN;
                end++;
            }
        }

        private void takeNumber() {
            number = 0;
            while (end < length && isFigure(end)) {
                if (end - begin < MOST_FIGURES) {
                    number = number * 10 + tape[end] - '0';
                }
                end++;
            }
            // More figures than a number may have are no number, nor several: they are no token.
            token = end - begin <= MOST_FIGURES ? NUMBER : NO_TOKEN;
        }

        private boolean isLetter(int at) {
            return at >= 0 && at < length && tape[at] >= 'a' && tape[at] <= 'z';
        }

        private boolean isFigure(int at) {
            return at >= 0 && at < length && tape[at] >= '0' && tape[at] <= '9';
        }

        /** The number of the word that the token is; WORDS: it is none. */
        private int wordHere() {
            for (int word = 0; word < WORDS; word++) {
                if (isHere(wordOf(word))) {
                    return word;
                }
            }
            return WORDS;
        }

        private boolean isHere(String word) {
            if (end - begin != word.length()) {
                return false;
            }
            for (int k = 0; k < word.length(); k++) {
                if (tape[begin + k] != word.charAt(k)) {
                    return false;
                }
            }
            return true;
        }

        private static String wordOf(int word) {
            switch (word) {
                case 0:
                    return "rope";
                case 1:
                    return "horse";
                case 2:
                    return "beast";
                case 3:
                    return "form";
                case 4:
                    return "rule";
                case 5:
                    return "spin";
                case 6:
                    return "stand";
                case 7:
                    return "flat";
                case 8:
                    return "edge";
                default:
                    return "close";
            }
        }
    }

    /** A loop and the arm that spins it. */
    private static final class Loop {
        int size;
        int spin;
        int twist;
        int tired;
        int tick;
        int why;
        boolean kinked;

        void begin() {
            fallToHand();
            tired = 0;
            tick = 0;
        }

        /** As it is behind a throw. */
        void fallToHand() {
            size = 20;
            spin = 0;
            twist = 0;
            kinked = false;
            why = NONE;
            tick++;
        }

        /** As it is behind a close. */
        void gather() {
            fallToHand();
            tired /= 2;
        }

        void copyFrom(Loop other) {
            size = other.size;
            spin = other.spin;
            twist = other.twist;
            tired = other.tired;
            tick = other.tick;
            why = other.why;
            kinked = other.kinked;
        }

        boolean isLike(Loop other) {
            return size == other.size && spin == other.spin && twist == other.twist
                && tired == other.tired && tick == other.tick && kinked == other.kinked;
        }

        boolean hasFallen() {
            return kinked || size <= 0;
        }

        static int turned(int spin, int up, int tired) {
            int top = Math.max(1, 15 - tired / 64);
            return Math.min(top, Math.max(0, spin + up - 2));
        }

        /** What the spin will be; a hand that turns by as much leaves the twist as it is. */
        int spinBy(int up) {
            return turned(spin, up, tired);
        }

        void advance(Scene scene, boolean standing, int up, int let, int turn) {
            spin = turned(spin, up, tired);
            int lacks = scene.needOf(size) + (standing ? 2 : 0) - spin;
            if (lacks <= 0) {
                size = Math.min(scene.room(), size + let * spin / 8);
            } else {
                size = Math.max(0, size - (standing ? 3 : 5) * lacks);
            }
            twist += standing ? (spin - turn) / 2 : spin - turn;
            tired += spin;
            tick++;
            kinked = Math.abs(twist) > scene.limit();
            why = reason(lacks > 0, size == scene.room());
        }

        private int reason(boolean lacking, boolean full) {
            if (kinked) {
                return 4;
            }
            if (size == 0) {
                return 3;
            }
            if (lacking) {
                return 2;
            }
            return full ? 1 : 0;
        }

        int tell(int what) {
            switch (what) {
                case 0:
                    return size;
                case 1:
                    return spin;
                case 2:
                    return twist;
                case 3:
                    return tired;
                case 4:
                    return tick;
                default:
                    return kinked ? 1 : 0;
            }
        }

        int whereIs(int i) {
            int eye = size / 10;
            if (i < eye) {
                return 2;
            }
            if (i == eye) {
                return 3;
            }
            return i <= eye + 4 + size / 40 ? 1 : 0;
        }
    }

    /** What an image keeps: the way, the rope and the horse that are taken, the live loop. */
    private static final class Scene {
        final Way way = new Way();
        final Loop loop = new Loop();
        boolean there;
        /** How often all became another, so that what was sought before can be known as old. */
        int takes;
        int length;
        int stiff;
        int wet;
        int lag;
        int near;
        int shake;

        void begin(Way read) {
            way.copyFrom(read);
            there = true;
            takeUp(0, 0);
        }

        void takeUp(int rope, int horse) {
            length = way.value(Way.ROPE, rope, Way.LENGTH);
            stiff = way.value(Way.ROPE, rope, Way.STIFF);
            wet = way.value(Way.ROPE, rope, Way.WET);
            lag = way.value(Way.HORSE, horse, Way.LAG);
            near = way.value(Way.HORSE, horse, Way.NEAR);
            shake = way.value(Way.HORSE, horse, Way.SHAKE);
            loop.begin();
            takes++;
        }

        void copyFrom(Scene other) {
            way.copyFrom(other.way);
            loop.copyFrom(other.loop);
            there = other.there;
            length = other.length;
            stiff = other.stiff;
            wet = other.wet;
            lag = other.lag;
            near = other.near;
            shake = other.shake;
            takes++;
        }

        int needOf(int size) {
            return Math.max(1, 4 + size / 20 + 2 * wet - stiff / 4);
        }

        int limit() {
            return 24 + 4 * stiff;
        }

        int room() {
            return length / 2;
        }

        int pieces() {
            return length / 10;
        }

        int greatestOpen(int spin) {
            for (int size = 400; size >= 0; size--) {
                if (spin >= needOf(size)) {
                    return size;
                }
            }
            return NONE;
        }

        int distance(int far, int tick) {
            return Math.max(far - lag * tick, Math.min(near, far));
        }

        int leastTurn(int spin, int n) {
            for (int turn = 0; turn <= 15; turn++) {
                if (staysFree(spin - turn, n)) {
                    return turn;
                }
            }
            return NONE;
        }

        private boolean staysFree(int added, int n) {
            int twist = loop.twist;
            for (int k = 0; k < n; k++) {
                twist += added;
                if (Math.abs(twist) > limit()) {
                    return false;
                }
            }
            return true;
        }
    }

    /** A throw that is weighed: by how much it misses, what is left, its odds. */
    private static final class Toss {
        static final int NEVER = 1000000;
        private static final int MISSED_FALLEN = 999;
        private static final int MISSED_FAR = 500;
        private static final int LONGEST_FLIGHT = 30;

        int missed;
        int left;
        int sum;
        int whole;
        private boolean edge;
        private int shake;
        private int distance;
        private int pace;
        private int wide;
        private int gait;
        private int duck;

        void aim(Scene scene, Loop loop, int how, int beast) {
            face(scene, loop.tick, how, beast);
            sum = 0;
            left = 0;
            missed = MISSED_FALLEN;
            if (loop.hasFallen()) {
                return;
            }
            sum = sumAt(loop.size, loop.spin);
            // What is missed and left is told by the spin itself, whether the hand shakes or not.
            int t = flightBy(loop.spin);
            int over = loop.size - sizeFor(t);
            left = t == 0 ? 0 : Math.max(0, over);
            missed = t == 0 ? MISSED_FAR : Math.max(0, -over);
        }

        boolean isLikely() {
            return 2 * sum >= whole;
        }

        /** The least size of an open loop with a spin at a tick of which a throw is likely. */
        int likelyFrom(Scene scene, int tick, int spin, int how, int beast) {
            face(scene, tick, how, beast);
            int least = NEVER;
            for (int s = -shake; s <= shake; s++) {
                int t = flightBy(spin + s);
                // Odds grow with the size, and only where one more of the spins is enough.
                if (t > 0 && sizeFor(t) < least && 2 * sumAt(sizeFor(t), spin) >= whole) {
                    least = sizeFor(t);
                }
            }
            return least;
        }

        private void face(Scene scene, int tick, int how, int beast) {
            edge = how == 1;
            shake = scene.shake;
            whole = 12 * (2 * shake + 1);
            distance = scene.distance(scene.way.value(Way.BEAST, beast, Way.FAR), tick);
            pace = scene.way.value(Way.BEAST, beast, Way.PACE);
            wide = scene.way.value(Way.BEAST, beast, Way.WIDE);
            gait = scene.way.value(Way.BEAST, beast, Way.GAIT);
            duck = scene.way.value(Way.BEAST, beast, Way.DUCK);
        }

        private int sumAt(int size, int spin) {
            int added = 0;
            for (int s = -shake; s <= shake; s++) {
                int t = flightBy(spin + s);
                if (t > 0 && size >= sizeFor(t)) {
                    added += ofTwelve(t);
                }
            }
            return added;
        }

        /** The first t for which the spin is enough; 0: none is. */
        private int flightBy(int spin) {
            int gain = Math.max(0, spin) - pace;
            if (distance <= 0) {
                return gain >= 0 ? 1 : 0;
            }
            if (gain <= 0) {
                return 0;
            }
            int t = (distance + gain - 1) / gain;
            return t <= LONGEST_FLIGHT ? t : 0;
        }

        /** The size of which nothing is left. */
        private int sizeFor(int t) {
            return edge ? 4 * t + wide / 2 : 6 * t + wide;
        }

        private int ofTwelve(int t) {
            if (!edge) {
                return 12 - duck;
            }
            return gait > 0 && t % gait == 0 ? 12 : 4;
        }
    }

    /** A run of the way, from the first loop. */
    private static final class Runner {
        private static final long FINEST = 1000000000000L;

        final Loop loop = new Loop();
        private final Toss toss = new Toss();
        int missed;
        int why;
        int points;
        long above;
        long below;
        boolean tooFine;
        int bestThrow;
        int bestSum;
        int bestWhole;

        void run(Scene scene, int upTo) {
            loop.begin();
            missed = NONE;
            why = NONE;
            points = 0;
            above = 1;
            below = 1;
            tooFine = false;
            int last = Math.min(upTo, scene.way.howMany(Way.ACT) - 1);
            for (int a = 0; a <= last; a++) {
                perform(scene, a);
            }
        }

        private void perform(Scene scene, int act) {
            missed = NONE;
            why = NONE;
            if (scene.way.isA(act, Way.LOOPED)) {
                int ticks = scene.way.value(Way.ACT, act, Way.TICKS);
                for (int k = 0; k < ticks && !loop.hasFallen(); k++) {
                    advance(scene, act);
                    why = loop.why;
                }
            } else if (scene.way.isA(act, Way.THROWN)) {
                throwAt(scene, act, scene.way.isA(act, Way.EDGED) ? 1 : 0);
            } else {
                loop.gather();
            }
        }

        private void advance(Scene scene, int act) {
            Way way = scene.way;
            boolean standing = way.kindOf(act) == Way.STANDING;
            int up = way.value(Way.ACT, act, Way.UP);
            int let = way.value(Way.ACT, act, Way.LET);
            int turn = way.value(Way.ACT, act, Way.TURN);
            loop.advance(scene, standing, up, let, turn);
        }

        private void throwAt(Scene scene, int act, int how) {
            int beast = scene.way.value(Way.ACT, act, Way.TARGET);
            toss.aim(scene, loop, how, beast);
            missed = toss.missed;
            points += scene.way.pointsFor(how, loop.tick, toss.isLikely());
            multiply(toss.sum, toss.whole);
            loop.fallToHand();
        }

        private void multiply(long sum, long whole) {
            // Behind a lower number that is too great the answer is settled, and more could wrap.
            if (tooFine) {
                return;
            }
            long up = above * sum;
            long down = below * whole;
            above = lowest(up, down, 0);
            below = lowest(up, down, 1);
            tooFine = below > FINEST;
        }

        void seekBest(Scene scene, int beast) {
            loop.begin();
            bestThrow = NONE;
            bestSum = 0;
            bestWhole = 1;
            weighBoth(scene, beast);
            int acts = scene.way.howMany(Way.ACT);
            for (int a = 0; a < acts && scene.way.isA(a, Way.LOOPED); a++) {
                int ticks = scene.way.value(Way.ACT, a, Way.TICKS);
                for (int k = 0; k < ticks && !loop.hasFallen(); k++) {
                    advance(scene, a);
                    weighBoth(scene, beast);
                }
            }
        }

        private void weighBoth(Scene scene, int beast) {
            for (int how = 0; how <= 1; how++) {
                toss.aim(scene, loop, how, beast);
                // All odds have the same whole, so their sums tell which is greater.
                if (toss.sum > bestSum) {
                    bestThrow = 2 * loop.tick + how;
                    bestSum = toss.sum;
                    bestWhole = toss.whole;
                }
            }
        }
    }

    /** The best row of few moves from the live loop. */
    private static final class Planner {
        static final int MOST_MOVES = 5;
        private static final int FIRST_THROW = 6;
        private static final int SPINS = 16;
        private static final int UNKNOWN = -1;

        private final Loop[] loops = new Loop[MOST_MOVES + 1];
        private final int[][] rows = new int[MOST_MOVES + 1][MOST_MOVES];
        private final int[] lengths = new int[MOST_MOVES + 1];
        private final int[] tops = new int[MOST_MOVES + 1];
        /** By depth, beast, how and spin: the size from which on a throw is likely. */
        private final int[] likely = new int[MOST_MOVES * Way.MOST_BEASTS * 2 * SPINS];
        private final Toss toss = new Toss();
        private int most;
        private int takes;
        private int thrownAt;

        Planner() {
            for (int d = 0; d <= MOST_MOVES; d++) {
                loops[d] = new Loop();
            }
        }

        int seekRow(Scene scene, int n) {
            // A row is mostly asked for move by move, so the latest one is kept.
            if (n == most && takes == scene.takes && loops[0].isLike(scene.loop)) {
                return tops[0];
            }
            loops[0].copyFrom(scene.loop);
            most = Math.min(n, MOST_MOVES);
            takes = scene.takes;
            thrownAt = 0;
            Arrays.fill(likely, UNKNOWN);
            Arrays.fill(lengths, 0);
            return seekFrom(scene, 0);
        }

        int moveAt(int i) {
            return i >= 0 && i < lengths[0] ? rows[0][i] : NONE;
        }

        /** Leaves the best row from a depth on in its row there: its worth. */
        private int seekFrom(Scene scene, int depth) {
            lengths[depth] = 0;
            tops[depth] = 0;
            if (depth < most) {
                tryTicks(scene, depth);
                tryThrows(scene, depth);
            }
            return tops[depth];
        }

        private void tryTicks(Scene scene, int depth) {
            Loop here = loops[depth];
            if (here.hasFallen()) {
                return;
            }
            // Nothing is counted behind the last move, so its first tick stands for all of them.
            if (depth == most - 1) {
                offer(depth, 0, 0);
                return;
            }
            int spin = -1;
            for (int u = 0; u <= 2; u++) {
                // A tick that leads where an earlier one led can't be the first of the best.
                if (here.spinBy(u + 1) != spin) {
                    spin = here.spinBy(u + 1);
                    tryLets(scene, depth, u, spin);
                }
            }
        }

        private void tryLets(Scene scene, int depth, int u, int turn) {
            Loop next = loops[depth + 1];
            int size = -1;
            for (int l = 0; l <= 1; l++) {
                next.copyFrom(loops[depth]);
                next.advance(scene, false, u + 1, 4 + 4 * l, turn);
                if (next.size != size) {
                    size = next.size;
                    offer(depth, 2 * u + l, seekFrom(scene, depth + 1));
                }
            }
        }

        private void tryThrows(Scene scene, int depth) {
            int beasts = scene.way.howMany(Way.BEAST);
            for (int b = 0; b < beasts; b++) {
                if ((thrownAt & 1 << b) == 0) {
                    int flat = worthOf(scene, depth, 0, b);
                    int edge = worthOf(scene, depth, 1, b);
                    // Behind both it is the same, so the better one stands for both.
                    int move = FIRST_THROW + 2 * b + (edge > flat ? 1 : 0);
                    offer(depth, move, Math.max(flat, edge) + seekBehindThrow(scene, depth, b));
                }
            }
        }

        private int seekBehindThrow(Scene scene, int depth, int beast) {
            if (depth == most - 1) {
                return 0;
            }
            Loop next = loops[depth + 1];
            next.copyFrom(loops[depth]);
            next.fallToHand();
            thrownAt |= 1 << beast;
            int worth = seekFrom(scene, depth + 1);
            thrownAt &= ~(1 << beast);
            return worth;
        }

        /** Odds are weighed once for all loops of a depth and a spin: of one depth all have the same tick. */
        private int worthOf(Scene scene, int depth, int how, int beast) {
            Loop loop = loops[depth];
            int at = ((depth * Way.MOST_BEASTS + beast) * 2 + how) * SPINS + loop.spin;
            boolean known = at >= 0 && at < likely.length;
            if (known && likely[at] == UNKNOWN) {
                likely[at] = toss.likelyFrom(scene, loop.tick, loop.spin, how, beast);
            }
            boolean good = known && !loop.hasFallen() && loop.size >= likely[at];
            return scene.way.pointsFor(how, loop.tick, good);
        }

        /** A move at a depth, with the row that was found behind it. */
        private void offer(int depth, int move, int worth) {
            if (lengths[depth] > 0 && worth <= tops[depth]) {
                return;
            }
            int behind = Math.min(lengths[depth + 1], MOST_MOVES - 1);
            tops[depth] = worth;
            rows[depth][0] = move;
            System.arraycopy(rows[depth + 1], 0, rows[depth], 1, behind);
            lengths[depth] = 1 + behind;
        }
    }

    /**
     * The least ticks to a size. Rows of moves are far too many to go through, but spins and tired
     * arms are few: for each pair of them the sizes that can be had are kept as bits of four longs.
     * A need is the same for twenty sizes, so twenty bits go at once.
     */
    private static final class Reach {
        static final int MOST_TICKS = 12;
        private static final int SPINS = 16;
        private static final int TIREDS = 15 * MOST_TICKS + 1;
        private static final int WORDS = 4;
        private static final int BAND = 20;
        private static final long BAND_BITS = (1L << BAND) - 1;

        private long[] here = new long[SPINS * TIREDS * WORDS];
        private long[] next = new long[SPINS * TIREDS * WORDS];
        private int tired;
        private int wanted;
        private boolean reached;

        int ticksTo(Scene scene, int size, int n) {
            Loop loop = scene.loop;
            if (loop.size >= size) {
                return 0;
            }
            if (loop.hasFallen() || size > scene.room()) {
                return NONE;
            }
            Arrays.fill(here, 0);
            Arrays.fill(next, 0);
            tired = loop.tired;
            wanted = size;
            reached = false;
            add(here, placeOf(loop.spin, 0), loop.size, 1);
            for (int k = 1; k <= n && k <= MOST_TICKS; k++) {
                spreadAll(scene, 15 * (k - 1));
                if (reached) {
                    return k;
                }
                long[] emptied = here;
                here = next;
                next = emptied;
            }
            return NONE;
        }

        private static int placeOf(int spin, int grown) {
            return (spin * TIREDS + grown) * WORDS;
        }

        private void spreadAll(Scene scene, int mostGrown) {
            for (int spin = 0; spin < SPINS; spin++) {
                for (int grown = 0; grown <= mostGrown && grown < TIREDS; grown++) {
                    int at = placeOf(spin, grown);
                    if ((here[at] | here[at + 1] | here[at + 2] | here[at + 3]) != 0) {
                        spread(scene, at, spin, grown);
                        emptyAt(at);
                    }
                }
            }
        }

        private void emptyAt(int at) {
            for (int w = 0; w < WORDS; w++) {
                here[at + w] = 0;
            }
        }

        private void spread(Scene scene, int at, int spin, int grown) {
            int before = -1;
            for (int up = 1; up <= 3; up++) {
                int turned = Loop.turned(spin, up, tired + grown);
                if (turned != before && turned < SPINS && grown + turned < TIREDS) {
                    before = turned;
                    spreadBands(scene, at, turned, placeOf(turned, grown + turned));
                }
            }
        }

        private void spreadBands(Scene scene, int at, int spin, int to) {
            for (int low = 0; low < wanted; low += BAND) {
                long bits = bandAt(at, low);
                if (bits == 0) {
                    continue;
                }
                int lacks = scene.needOf(low) - spin;
                if (lacks > 0) {
                    add(next, to, low - 5 * lacks, bits);
                } else {
                    add(next, to, low + spin / 2, bits);
                    add(next, to, low + spin, bits);
                }
            }
        }

        private long bandAt(int at, int low) {
            int word = low / 64;
            int shift = low % 64;
            long bits = here[at + word] >>> shift;
            if (shift > 64 - BAND && word + 1 < WORDS) {
                bits |= here[at + word + 1] << (64 - shift);
            }
            return bits & BAND_BITS;
        }

        private void add(long[] sets, int at, int low, long band) {
            int from = Math.max(0, low);
            long bits = low >= 0 ? band : low > -BAND ? band >>> -low : 0;
            if (from == 0) {
                // A loop that is shut goes nowhere.
                bits &= ~1L;
            }
            int above = wanted - from;
            if (above <= 0 ? bits != 0 : above < BAND && bits >>> above != 0) {
                reached = true;
                return;
            }
            int word = from / 64;
            int shift = from % 64;
            if (word < WORDS) {
                sets[at + word] |= bits << shift;
            }
            if (shift > 64 - BAND && word + 1 < WORDS) {
                sets[at + word + 1] |= bits >>> (64 - shift);
            }
        }
    }

    /** Shows, tries of a child, hands of a film. */
    private static final class Seeker {
        static final int HANDS = 9;
        private static final int SETS = 1 << Way.MOST_FORMS;
        private static final int MOST_SKILL = 100;
        private static final int MOST_TRIES = 30;

        /** By the forms that were shown and the last of them: the longest row from there on. */
        private final int[] longest = new int[SETS * Way.MOST_FORMS];
        private final int[] show = new int[Way.MOST_FORMS];
        private final int[] tries = new int[MOST_SKILL + 1];
        private final Loop loop = new Loop();
        private int shown;

        void seekShow(Way way) {
            int forms = way.howMany(Way.FORM);
            // Sets with more forms have greater numbers, so theirs is known ahead.
            for (int set = (1 << forms) - 1; set > 0; set--) {
                for (int last = 0; last < forms; last++) {
                    int f = nextForm(way, set, last);
                    longest[placeOf(set, last)] = f == NONE ? 1 : 1 + longest[placeOf(set | 1 << f, f)];
                }
            }
            shown = 0;
            int set = 0;
            int form = nextForm(way, 0, NONE);
            while (form != NONE && shown < forms) {
                show[shown] = form;
                shown++;
                set |= 1 << form;
                form = nextForm(way, set, form);
            }
        }

        private static int placeOf(int set, int last) {
            return set * Way.MOST_FORMS + last;
        }

        int showLength() {
            return shown;
        }

        int formAt(int i) {
            return i >= 0 && i < shown ? show[i] : NONE;
        }

        /** The form to go to from the last one (NONE: to begin with) for the longest row. */
        private int nextForm(Way way, int set, int last) {
            int forms = way.howMany(Way.FORM);
            int most = 0;
            int chosen = NONE;
            for (int f = 0; f < forms; f++) {
                boolean free = (set & 1 << f) == 0;
                int length = free ? longest[placeOf(set | 1 << f, f)] : 0;
                if (length > most && (last == NONE || goes(way, last, f))) {
                    most = length;
                    chosen = f;
                }
            }
            return chosen;
        }

        private static boolean goes(Way way, int a, int b) {
            return areNear(way, a, b, Way.SPINS, 2) && areNear(way, a, b, Way.SIZES, 20);
        }

        private static boolean areNear(Way way, int a, int b, int field, int reach) {
            int lowA = way.value(Way.FORM, a, field);
            int highA = way.value(Way.FORM, a, field + 1);
            int lowB = way.value(Way.FORM, b, field);
            int highB = way.value(Way.FORM, b, field + 1);
            return lowB - highA <= reach && lowA - highB <= reach;
        }

        /** The fewest tries from each skill; a skill never sinks, so the high ones come first. */
        void seekTries(Way way, int to) {
            for (int skill = MOST_SKILL; skill >= 0; skill--) {
                int fewest = MOST_TRIES + 1;
                for (int rope = 0; skill < to && rope < way.howMany(Way.ROPE); rope++) {
                    fewest = Math.min(fewest, triesBy(way, rope, skill));
                }
                tries[skill] = skill >= to ? 0 : fewest;
            }
        }

        int triesFrom(int skill) {
            boolean known = skill >= 0 && skill <= MOST_SKILL;
            return known && tries[skill] <= MOST_TRIES ? tries[skill] : NONE;
        }

        int firstRope(Way way, int skill) {
            int fewest = triesFrom(skill);
            for (int rope = 0; fewest > 0 && rope < way.howMany(Way.ROPE); rope++) {
                if (triesBy(way, rope, skill) == fewest) {
                    return rope;
                }
            }
            return NONE;
        }

        private int triesBy(Way way, int rope, int skill) {
            int learnt = skillBehind(way, rope, skill);
            return learnt > skill && learnt <= MOST_SKILL ? 1 + tries[learnt] : MOST_TRIES + 1;
        }

        private static int skillBehind(Way way, int rope, int skill) {
            int stiff = way.value(Way.ROPE, rope, Way.STIFF);
            int length = way.value(Way.ROPE, rope, Way.LENGTH);
            int apart = Math.abs(skill / 10 - stiff - length / 50);
            return Math.min(MOST_SKILL, skill + Math.max(0, 10 - apart));
        }

        boolean isHandOf(int hand, Scene scene, Rows rows, int row, int i, int n) {
            loop.begin();
            for (int k = 0; k < n; k++) {
                if (!loop.hasFallen()) {
                    int up = 1 + hand / 3;
                    loop.advance(scene, false, up, 4 * (hand % 3), loop.spinBy(up));
                }
                if (loop.size != rows.itemAt(row, i + k)) {
                    return false;
                }
            }
            return true;
        }
    }

    /** Asks of acts, body by body, and the trace of those that began. */
    private static final class Asker {
        private static final int LONGEST_TRACE = 16;

        private final int[] trace = new int[LONGEST_TRACE];
        private int begun;

        int begunAt(int i) {
            return i >= 0 && i < begun ? trace[i] : NONE;
        }

        private void begin(int body) {
            if (begun < LONGEST_TRACE) {
                trace[begun] = body;
                begun++;
            }
        }

        int sizeOf(Way way, int act) {
            begun = 0;
            switch (way.kindOf(act)) {
                case Way.SPUN:
                    return body11(way, act);
                case Way.STANDING:
                    return body12(way, act);
                case Way.THROWN:
                    return body13(way, act);
                case Way.EDGED:
                    return body14(way, act);
                default:
                    return body10();
            }
        }

        int markOf(Way way, int act) {
            begun = 0;
            switch (way.kindOf(act)) {
                case Way.SPUN:
                    return body22(way, act);
                case Way.STANDING:
                    return body21(way, act);
                case Way.EDGED:
                    return body24(act);
                case Way.CLOSING:
                    return body23(act);
                default:
                    return body20(act);
            }
        }

        private int body10() {
            begin(10);
            return 1;
        }

        private int body11(Way way, int act) {
            begin(11);
            return body10() + way.value(Way.ACT, act, Way.TICKS);
        }

        private int body12(Way way, int act) {
            begin(12);
            return 2 * body11(way, act);
        }

        private int body13(Way way, int act) {
            begin(13);
            int beast = way.value(Way.ACT, act, Way.TARGET);
            return body10() + way.value(Way.BEAST, beast, Way.FAR);
        }

        private int body14(Way way, int act) {
            begin(14);
            int given = body13(way, act);
            // No kind is narrower than EDGED, so MARK of the same act can begin with 24 alone.
            return given - body24(act);
        }

        private int body20(int act) {
            begin(20);
            return act;
        }

        private int body21(Way way, int act) {
            begin(21);
            return body20(act) + way.value(Way.ACT, act, Way.LET);
        }

        private int body22(Way way, int act) {
            begin(22);
            int given = body21(way, act);
            // No kind is narrower than SPUN, so SIZE of the same act can begin with 11 alone.
            return given + body11(way, act);
        }

        private int body23(int act) {
            begin(23);
            return -body20(act);
        }

        private int body24(int act) {
            begin(24);
            return body20(act) + 50;
        }
    }
}
