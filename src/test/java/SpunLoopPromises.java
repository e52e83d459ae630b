/** Each promise by itself: ordinary inputs, the edges that the document names, wrong inputs. */
public final class SpunLoopPromises {
    private static final int NONE = -1000000;
    private static final long NOT = -9000000000000000000L;
    private static final long BAD = NOT - 1;
    private static final long STATE = NOT - 2;
    private static final long FULL = NOT - 3;
    private static final long NULL = NOT - 11;
    private static final long PLACE = NOT - 12;
    private static final long KIND = NOT - 13;
    private static final long SIZE = NOT - 14;
    private static final long STORE = NOT - 15;
    private static final int LEAST = Integer.MIN_VALUE;
    private static final int MOST = Integer.MAX_VALUE;

    private static int wrong = 0;
    private static int promise = 0;
    private static int rows = 0;

    private static void due(long got, long want) {
        rows++;
        if (got != want) {
            wrong++;
            String at = Thread.currentThread().getStackTrace()[2].toString();
            System.out.println("promise " + promise + ", " + at + ": answered " + got + ", due is " + want);
        }
    }

    private static void feed(SpunLoop x, String text) {
        for (int at = 0; at < text.length(); at += 8) {
            String part = text.substring(at, Math.min(text.length(), at + 8));
            long w = -1;
            for (int k = 0; k < part.length(); k++) {
                w = w << 8 | part.charAt(k);
            }
            x.feed(w, part.length());
        }
    }

    private static SpunLoop of(String text) {
        SpunLoop x = new SpunLoop();
        feed(x, text);
        if (x.way() < 0) {
            wrong++;
            System.out.println("promise " + promise + ": this text was not read: " + text);
        }
        return x;
    }

    private static void nowIs(SpunLoop x, long... numbers) {
        for (int what = 0; what < numbers.length; what++) {
            due(x.now(what), numbers[what]);
        }
    }

    public static void main(String[] args) {
        newObject();
        rowSetDrop();
        copies();
        feeds();
        ways();
        faults();
        acts();
        takes();
        ticks();
        tiredArm();
        hurls();
        closes();
        nows();
        pieces();
        oddsOfThrows();
        needs();
        outs();
        wraps();
        tolds();
        alls();
        scores();
        bests();
        rowsOfMoves();
        fewestTicks();
        shows();
        learns();
        films();
        images();
        kinds();
        asks();
        counts();
        statuses();
        System.out.println(wrong == 0 ? rows + " answers are as due" : wrong + " answers are not as due");
        if (wrong != 0) {
            System.exit(1);
        }
    }

    private static void newObject() {
        promise = 1;
        SpunLoop x = new SpunLoop();
        for (int what = 0; what <= 8; what++) {
            due(x.count(what), 0);
        }
        due(x.fault(), 0);
        due(x.status(), 0);
        due(x.trace(0), NONE);
        due(x.now(0), STATE);
        due(x.piece(-1), STATE);
        due(x.told(-2, 9), STATE);
        due(x.score(), STATE);
        due(x.restore(0), STATE);
        due(SpunLoop.NONE, NONE);
        due(SpunLoop.NOT, NOT);
    }

    private static void rowSetDrop() {
        promise = 2;
        SpunLoop x = of("rope 200 4 0;");
        due(x.row(0, 0, 0), 0);
        due(x.row(7, 2, 40), 40);
        due(x.count(0), 2);
        due(x.row(-1, 0, 1), BAD);
        due(x.row(8, 0, 1), BAD);
        due(x.row(0, -1, 1), BAD);
        due(x.row(0, 3, 1), BAD);
        due(x.row(0, 0, 41), BAD);
        due(x.row(0, 0, MOST), BAD);
        due(x.row(0, 3, -1), BAD);
        due(x.row(1, 0, -1), SIZE);
        due(x.row(1, 0, LEAST), SIZE);
        due(x.count(0), 2);
        due(x.row(0, 2, -1), SIZE);
        due(x.drop(0), 0);
        // What is there goes: the items are 0 again (0 is what the loop has behind UP 1 and 2).
        due(x.row(1, 1, 1), 1);
        due(x.set(1, 0, 5), 5);
        due(x.film(1, 0, 1), 448);
        due(x.row(1, 1, 1), 1);
        due(x.film(1, 0, 1), 63);

        promise = 3;
        due(x.row(2, 0, 3), 3);
        due(x.set(2, 0, 127), 127);
        due(x.set(2, 0, 128), -128);
        due(x.set(2, 1, 255), -1);
        due(x.set(2, 2, 256), 0);
        due(x.set(2, 2, -129), 127);
        due(x.row(2, 1, 2), 2);
        due(x.set(2, 0, 32768), -32768);
        due(x.set(2, 0, 40000), -25536);
        due(x.set(2, 1, 65536), 0);
        due(x.set(2, 1, LEAST), 0);
        due(x.row(2, 2, 2), 2);
        due(x.set(2, 0, LEAST), LEAST);
        due(x.set(2, 1, MOST), MOST);
        due(x.set(2, 2, 0), PLACE);
        due(x.set(2, -1, 0), PLACE);
        due(x.set(2, LEAST, 0), PLACE);
        due(x.set(3, -1, 0), NULL);
        due(x.set(8, 0, 0), BAD);
        due(x.set(-1, 0, 0), BAD);

        promise = 5;
        due(x.drop(2), 2);
        due(x.drop(2), NULL);
        due(x.set(2, 0, 0), NULL);
        due(x.drop(8), BAD);
        due(x.drop(-1), BAD);
        due(x.drop(7), 40);
    }

    private static void copies() {
        promise = 4;
        SpunLoop x = of("rope 200 4 0;");
        x.row(0, 2, 4);
        x.row(1, 2, 2);
        x.row(2, 1, 40);
        x.set(0, 0, 5);
        x.set(0, 1, 7);
        due(x.copy(0, 0, 1, 1, 1), 1);
        due(x.film(1, 1, 1), 448);
        due(x.film(1, 0, 1), 63);
        // As they were ahead, though the places overlap: 5 7 0 0 becomes 5 5 7 0.
        due(x.copy(0, 0, 0, 1, 3), 3);
        due(x.film(0, 1, 1), 448);
        due(x.film(0, 2, 1), 0);
        due(x.film(0, 3, 1), 63);
        // And back: 5 7 0 0.
        due(x.copy(0, 1, 0, 0, 3), 3);
        due(x.film(0, 0, 1), 448);
        due(x.film(0, 1, 1), 0);
        due(x.film(0, 2, 1), 63);
        due(x.copy(0, 4, 1, 2, 0), 0);
        due(x.copy(0, 0, 1, 0, 3), PLACE);
        due(x.copy(1, 1, 0, 0, 2), PLACE);
        due(x.copy(0, 5, 1, 0, 0), PLACE);
        due(x.copy(0, -1, 1, 0, 1), PLACE);
        due(x.copy(0, 0, 1, -1, 1), PLACE);
        due(x.copy(0, 0, 1, 0, -1), PLACE);
        due(x.copy(0, MOST, 1, 0, MOST), PLACE);
        due(x.copy(0, 1, 1, 1, MOST), PLACE);
        due(x.copy(0, LEAST, 1, 0, LEAST), PLACE);
        due(x.copy(0, 0, 2, 0, 1), STORE);
        due(x.copy(0, -1, 2, 0, 1), STORE);
        due(x.copy(0, 0, 3, 0, 1), NULL);
        due(x.copy(3, -1, 2, 0, 1), NULL);
        due(x.copy(8, 0, 0, 0, 0), BAD);
        due(x.copy(0, 0, 8, 0, 0), BAD);
        due(x.copy(3, 0, -1, 0, 0), BAD);
        due(x.film(1, 1, 1), 448);
    }

    private static void feeds() {
        promise = 6;
        SpunLoop x = new SpunLoop();
        due(x.feed(0, 0), BAD);
        due(x.feed(0, 9), BAD);
        due(x.feed(0, -1), BAD);
        // The lowest bytes, the highest of them first; what is above them does not count.
        due(x.feed(0x4141726f7065L, 4), 4);
        due(x.feed(0x2034302030203020L, 8), 12);
        due(x.feed(-256 + ';', 1), 13);
        due(x.count(7), 13);
        due(x.way(), 0);
        due(x.count(7), 0);
        for (int k = 1; k <= 74; k++) {
            due(x.feed(0x2020202020202020L, 8), 8 * k);
        }
        due(x.feed(0x2020202020202020L, 7), 599);
        due(x.feed(0x2020, 2), FULL);
        due(x.feed(0x2020, 9), BAD);
        due(x.count(7), 599);
        due(x.feed(0x20, 1), 600);
        due(x.feed(0x20, 1), FULL);
        due(x.way(), NOT - 100 - 600);
        due(x.fault(), 1);
        due(x.count(7), 0);
    }

    private static void ways() {
        promise = 7;
        SpunLoop x = of("\n rope 40 9 1 ;\nrope 400 0 0;rope 50 1 0; horse 20 99 3;horse 0 0 0;beast 200 15 100 9 12;"
            + "form 0 15 0 200;form 15 15 200 200;rule 200 99 99 99;spin 40 4 9 15;stand 1 0 0 0;flat 0;edge 0;close;\n");
        due(x.count(1), 3);
        due(x.count(2), 2);
        due(x.count(3), 1);
        due(x.count(4), 2);
        due(x.count(5), 5);
        due(x.count(6), 2);
        x.tick(0, 4, 0, 0);
        due(x.now(4), 1);
        // A fault: all stays, but the tape.
        feed(x, "rope 40 9 1;close;closed;");
        due(x.way(), NOT - 100 - 18);
        due(x.fault(), 1);
        due(x.count(5), 5);
        due(x.count(7), 0);
        due(x.now(4), 1);
        feed(x, "rope 60 2 0;close;");
        due(x.way(), 1);
        due(x.fault(), 1);
        due(x.count(1), 1);
        due(x.count(2), 0);
        due(x.now(4), 0);
        due(x.need(0), 4);
        // Figures may begin with 0, names and numbers may touch.
        feed(x, "rope040 009 01;close;close;");
        due(x.way(), 2);
        due(x.need(0), 4);
    }

    private static void fault(String text, int place, int number) {
        SpunLoop x = new SpunLoop();
        feed(x, text);
        due(x.way(), NOT - 100 - place);
        due(x.fault(), number);
        due(x.now(0), STATE);
    }

    private static void faults() {
        promise = 8;
        String r = "rope 40 0 0;";
        fault("", 0, 1);
        fault(" \n ", 3, 1);
        fault("Rope 40 0 0;", 0, 1);
        fault("ropes 40 0 0;", 0, 1);
        fault("rop 40 0 0;", 0, 1);
        fault("close;", 0, 1);
        fault("rope;", 4, 1);
        fault("rope rope", 5, 1);
        fault("rope 40 0 0 1;", 12, 1);
        fault("rope 40 0 0", 11, 1);
        fault("rope 40 0 0 \n", 13, 1);
        fault(r + ";", 12, 1);
        fault(r + "7", 12, 1);
        fault(r + "#", 12, 1);
        fault(r + " \t", 13, 1);
        fault(r + "\r\n", 12, 1);
        fault(r + (char) 128, 12, 1);
        fault("rope -40 0 0;", 5, 1);
        fault("rope 39 0 0;", 5, 2);
        fault("rope 401 0 0;", 5, 2);
        // A row of more than 3 figures is no token, wherever it stands and whatever it would tell.
        fault("rope 0040 0 0;", 5, 1);
        fault("rope 4010005\0\0\0\0", 5, 1);
        fault("rope 1000 0 0;", 5, 1);
        fault("rope 40 0000 0;", 8, 1);
        fault("rope 40 0 0001;", 10, 1);
        fault("rope 40 0 0;1234", 12, 1);
        fault("rope 40 0 0 1234;", 12, 1);
        fault("rope 99999999999 0 0;", 5, 1);
        fault("rope0040 0 0;", 4, 1);
        fault("rope 999 0 0;", 5, 2);
        fault("rope 000 0 0;", 5, 2);
        fault("rope 39 0000 0;", 5, 2);
        fault(r + "flat 0000;", 17, 1);
        fault(r + "form 5 0004 0 0;", 19, 1);
        fault(r + "spin 1 0 0 1000;", 23, 1);
        fault("rope 40 0 2;", 10, 2);
        fault("rope 39 #", 5, 2);
        fault(r + "horse 0 0;", 21, 1);
        fault(r + "horse 21 0 0;", 18, 2);
        fault(r + "horse 0 0 0;" + r, 24, 1);
        fault(r + "beast 201 0 1 1 0;", 18, 2);
        fault(r + "beast 1 16 1 1 0;", 20, 2);
        fault(r + "beast 1 0 0 1 0;", 22, 2);
        fault(r + "beast 1 0 101 1 0;", 22, 2);
        fault(r + "beast 1 0 1 0 0;", 24, 2);
        fault(r + "beast 1 0 1 1 0;horse 0 0 0;", 28, 1);
        fault(r + "form 16 16 0 0;", 17, 2);
        fault(r + "form 5 4 0 0;", 19, 2);
        fault(r + "form 5 16 0 0;", 19, 2);
        fault(r + "form 0 0 201 201;", 21, 2);
        fault(r + "form 0 0 9 201;", 23, 2);
        fault(r + "rule 201 0 0 0;", 17, 2);
        fault(r + "rule 1 100 0 0;", 19, 2);
        fault(r + "rule 1 0 0 100;", 23, 2);
        fault(r + "rule 1 0 0 0;rule 1 0 0 0;", 25, 1);
        fault(r + "close;rule 1 0 0 0;", 18, 1);
        fault(r + "spin 41 0 0 0;", 17, 2);
        fault(r + "spin 0 0 0 0;", 17, 2);
        fault(r + "stand 1 5 0 0;", 20, 2);
        fault(r + "stand 1 0 0 16;", 24, 2);
        fault(r + "flat 0;", 17, 2);
        fault(r + "beast 1 0 1 1 0;edge 1;", 33, 2);
        fault(r + "beast 1 0 1 1 0;edge ;", 33, 1);
        fault(r + "close 0;", 18, 1);
        bounds();
        fault(r + r + r + r, 36, 3);
        fault(r + "horse 0 0 0;".repeat(4), 48, 3);
        fault(r + "beast 1 0 1 1 0;".repeat(5), 76, 3);
        fault(r + "form 0 0 0 0;".repeat(7), 90, 3);
        fault(r + "close;".repeat(21), 132, 3);
        fault(r + "close;".repeat(20) + "rope", 132, 1);
        SpunLoop x = of(r + "close;".repeat(20));
        due(x.count(5), 20);
        due(x.fault(), 0);
        feed(x, r + r + r + r);
        x.way();
        due(x.fault(), 3);
        feed(x, r);
        due(x.way(), 0);
        due(x.fault(), 3);
    }

    /** Each number of each sort: the least and the most are read, one less and one more are not. */
    private static void bounds() {
        String head = "rope 40 0 0;beast 1 0 1 1 0;";
        String[] words = {"rope", "horse", "beast", "rule", "spin", "stand"};
        int[][] low = {{40, 0, 0}, {0, 0, 0}, {1, 0, 1, 1, 0}, {1, 0, 0, 0}, {1, 0, 0, 0}, {1, 0, 0, 0}};
        int[][] high = {{400, 9, 1}, {20, 99, 3}, {200, 15, 100, 9, 12}, {200, 99, 99, 99}, {40, 4, 9, 15},
            {40, 4, 9, 15}};
        for (int w = 0; w < words.length; w++) {
            String ahead = w == 0 ? "" : w == 1 ? "rope 40 0 0;" : head;
            of(ahead + thing(words[w], low[w], 0, 0));
            of(ahead + thing(words[w], high[w], 0, 0));
            for (int k = 0; k < low[w].length; k++) {
                int place = thing(words[w], low[w], 0, 0).split(" ")[0].length() + 1;
                for (int j = 0; j < k; j++) {
                    place += ("" + low[w][j]).length() + 1;
                }
                fault(ahead + thing(words[w], low[w], k, high[w][k] + 1 - low[w][k]), ahead.length() + place, 2);
                if (low[w][k] > 0) {
                    fault(ahead + thing(words[w], low[w], k, -1), ahead.length() + place, 2);
                }
            }
        }
    }

    private static String thing(String word, int[] numbers, int at, int more) {
        StringBuilder text = new StringBuilder(word);
        for (int k = 0; k < numbers.length; k++) {
            text.append(' ').append(numbers[k] + (k == at ? more : 0));
        }
        return text.append(';').toString();
    }

    private static void acts() {
        promise = 9;
        SpunLoop x = of("rope 40 0 0;beast 1 0 1 1 0;beast 1 0 1 1 0;spin 40 4 9 15;stand 1 3 2 1;flat 1;edge 0;close;");
        long[][] want = {{40, 4, 9, 15}, {1, 3, 2, 1}, {1, NONE, NONE, NONE}, {0, NONE, NONE, NONE},
            {NONE, NONE, NONE, NONE}};
        for (int act = 0; act < 5; act++) {
            for (int what = 0; what < 4; what++) {
                due(x.act(act, what), want[act][what]);
            }
        }
        due(x.act(-1, 0), BAD);
        due(x.act(5, 0), BAD);
        due(x.act(0, -1), BAD);
        due(x.act(0, 4), BAD);
        due(new SpunLoop().act(0, 0), BAD);
    }

    private static void takes() {
        promise = 10;
        SpunLoop x = of("rope 40 0 1;rope 400 8 0;horse 10 0 0;horse 0 0 0;beast 60 0 1 1 0;");
        due(x.need(20), 7);
        due(x.tick(0, 4, 0, 0), 3);
        due(x.take(1, 1), 1);
        due(x.need(20), 3);
        nowIs(x, 20, 0, 0, 0, 0, 0, NONE);
        due(x.piece(39), 0);
        due(x.take(2, 0), BAD);
        due(x.take(-1, 0), BAD);
        due(x.take(0, 2), BAD);
        due(x.take(0, -1), BAD);
        due(x.take(NONE, 0), BAD);
        due(x.need(20), 3);
        due(x.take(0, NONE), 1);
        due(x.need(20), 7);
        due(new SpunLoop().take(0, NONE), BAD);
        due(new SpunLoop().take(0, 0), BAD);
        // The horse matters: by tick 5 it has come so near that a spin of 10 is enough.
        long[] missed = new long[2];
        for (int horse = 0; horse <= 1; horse++) {
            x.take(1, horse);
            for (int k = 0; k < 5; k++) {
                x.tick(0, 4, 9, 2 * k + 2);
            }
            missed[horse] = x.hurl(0, 0);
        }
        due(missed[0], -(45 - 6 - 1) - 1);
        due(missed[1], -(45 - 36 - 1) - 1);
    }

    private static void ticks() {
        promise = 11;
        SpunLoop x = of("rope 100 0 0;rope 400 8 0;rope 40 8 0;");
        due(x.tick(0, 4, 9, 0), 2);
        nowIs(x, 5, 2, 2, 2, 1, 0, 2);
        due(x.tick(0, 4, 9, 0), 0);
        nowIs(x, 9, 4, 6, 6, 2, 0, 0);
        due(x.tick(0, 4, 9, 0), 0);
        nowIs(x, 15, 6, 12, 12, 3, 0, 0);
        due(x.tick(0, 4, 9, 0), 0);
        nowIs(x, 24, 8, 20, 20, 4, 0, 0);
        due(x.tick(0, 4, 9, 0), 4);
        nowIs(x, 35, 10, 30, 30, 5, 1, 4);
        due(x.tick(0, 4, 9, 0), STATE);
        due(x.tick(0, 5, 9, 0), BAD);
        nowIs(x, 35, 10, 30, 30, 5, 1, 4);
        // Twist on the limit is no kink yet, neither above nor below.
        x.take(0, NONE);
        for (int k = 0; k < 4; k++) {
            x.tick(0, 4, 0, 0);
        }
        due(x.tick(0, 2, 0, 4), 4 - 4);
        nowIs(x, 5, 8, 24, 28, 5, 0, 0);
        x.take(1, NONE);
        due(x.tick(1, 4, 9, 15), 2);
        nowIs(x, 11, 2, -6, 2, 1, 0, 2);
        due(x.tick(1, 4, 9, 15), 0);
        nowIs(x, 15, 4, -11, 6, 2, 0, 0);
        x.take(1, NONE);
        due(x.tick(0, 4, 9, 15), 2);
        due(x.now(2), -13);
        due(x.tick(0, 0, 9, 15), 2);
        // Spin 0 lacks 2 of what a size of 15 needs.
        nowIs(x, 5, 0, -28, 2, 2, 0, 2);
        due(x.tick(0, 4, 9, 15), 0);
        nowIs(x, 7, 2, -41, 4, 3, 0, 0);
        due(x.tick(0, 4, 9, 15), 0);
        nowIs(x, 11, 4, -52, 8, 4, 0, 0);
        due(x.tick(0, 4, 9, 15), 4);
        nowIs(x, 17, 6, -61, 14, 5, 1, 4);
        // The rope is let out.
        x.take(2, NONE);
        due(x.tick(0, 4, 9, 2), 2);
        due(x.tick(0, 4, 9, 4), 0);
        due(x.now(0), 19);
        due(x.tick(0, 4, 9, 6), 1);
        due(x.now(0), 20);
        due(x.tick(0, 2, 0, 6), 1);
        // It shuts.
        due(x.tick(0, 0, 0, 4), 1);
        due(x.tick(0, 0, 0, 2), 2);
        due(x.tick(0, 0, 0, 0), 2);
        due(x.now(0), 5);
        due(x.tick(0, 0, 0, 0), 3);
        nowIs(x, 0, 0, 0, 24, 8, 0, 3);
        due(x.tick(0, 2, 0, 0), STATE);
        due(x.tick(-1, 2, 0, 0), BAD);
        due(x.tick(2, 2, 0, 0), BAD);
        due(x.tick(0, -1, 0, 0), BAD);
        due(x.tick(0, 2, -1, 0), BAD);
        due(x.tick(0, 2, 10, 0), BAD);
        due(x.tick(0, 2, 0, -1), BAD);
        due(x.tick(0, 2, 0, 16), BAD);
        due(new SpunLoop().tick(0, 2, 0, 0), STATE);
    }

    private static void tiredArm() {
        SpunLoop x = of("rope 400 9 0;beast 1 0 1 1 0;");
        for (int k = 1; k <= 7; k++) {
            x.tick(0, 4, 0, 2 * k);
        }
        nowIs(x, 15, 14, 0, 56, 7);
        due(x.tick(0, 4, 0, 15), 0);
        nowIs(x, 15, 15, 0, 71, 8);
        // 71 by 64 is 1: no more than 14 now, though the hand leaves it as it is.
        due(x.tick(0, 2, 0, 14), 0);
        nowIs(x, 15, 14, 0, 85, 9);
        due(x.tick(0, 1, 0, 13), 0);
        nowIs(x, 15, 13, 0, 98, 10);
        due(x.tick(0, 4, 0, 14), 0);
        nowIs(x, 15, 14, 0, 112, 11);
        for (int k = 0; k < 150; k++) {
            x.tick(0, 4, 0, (int) Math.max(1, 15 - x.now(3) / 64));
        }
        // From 896 on the arm turns by 1 still, but even a small loop needs 2: it falls 5, 5, 5.
        due(x.now(0), 0);
        due(x.now(1), 1);
        due(x.now(2), 0);
        due(x.now(3) >= 896 + 3 ? 1 : 0, 1);
        due(x.now(6), 3);
        // More and more tired: 1 is the least.
        for (int k = 0; k < 25; k++) {
            due(x.hurl(0, 0), 999);
            due(x.tick(0, 4, 0, 1), 2);
            due(x.tick(0, 4, 0, 1), 2);
            due(x.tick(0, 4, 0, 1), 3);
        }
        due(x.now(3) >= 960 ? 1 : 0, 1);
        due(x.now(1), 1);
    }

    /** Five ticks by a rope 400 8 0: SIZE 43, SPIN 10, TIRED 30. */
    private static SpunLoop spun(String things) {
        SpunLoop x = of("rope 400 8 0;" + things);
        for (int k = 1; k <= 5; k++) {
            x.tick(0, 4, 8, 2 * k);
        }
        return x;
    }

    private static void hurls() {
        promise = 12;
        // SPIN 10, FAR 20, PACE 2: t is 3.
        SpunLoop x = spun("beast 20 2 10 3 4;");
        nowIs(x, 43, 10, 0, 30, 5, 0, 0);
        x.image(0);
        due(x.hurl(0, 0), -16);
        nowIs(x, 20, 0, 0, 30, 6, 0, NONE);
        due(x.hurl(0, 0), 500);
        nowIs(x, 20, 0, 0, 30, 7, 0, NONE);
        x.restore(0);
        due(x.hurl(1, 0), -27);
        due(x.hurl(2, 0), BAD);
        due(x.hurl(-1, 0), BAD);
        due(x.hurl(0, 1), BAD);
        due(x.hurl(0, -1), BAD);
        due(x.now(4), 6);
        due(new SpunLoop().hurl(0, 0), BAD);
        // Nothing left is a hit, one less is not; WIDE by 2 is cut.
        due(spun("beast 20 2 25 3 4;").hurl(0, 0), -1);
        due(spun("beast 20 2 26 3 4;").hurl(0, 0), 1);
        due(spun("beast 20 2 63 3 4;").hurl(1, 0), -1);
        due(spun("beast 20 2 64 3 4;").hurl(1, 0), 1);
        // t is 30 at most.
        due(spun("beast 30 9 1 3 4;").hurl(0, 0), 6 * 30 + 1 - 43);
        due(spun("beast 31 9 1 3 4;").hurl(0, 0), 500);
        due(spun("beast 1 10 1 3 4;").hurl(0, 0), 500);
        due(spun("beast 1 15 1 3 4;").hurl(0, 0), 500);
        // The horse comes nearer, up to NEAR; FAR counts where it is less.
        due(spun("horse 3 1 0;beast 40 0 10 3 4;").hurl(0, 0), -(43 - 18 - 10) - 1);
        due(spun("horse 20 25 0;beast 40 0 10 3 4;").hurl(0, 0), -(43 - 18 - 10) - 1);
        due(spun("horse 20 99 0;beast 35 0 10 3 4;").hurl(0, 0), -(43 - 24 - 10) - 1);
        // Nothing is between: t is 1, where the beast is no faster.
        due(spun("horse 20 0 0;beast 40 10 10 3 4;").hurl(0, 0), -(43 - 6 - 10) - 1);
        due(spun("horse 20 0 0;beast 40 11 10 3 4;").hurl(0, 0), 500);
        // Shut, kinked.
        x = of("rope 40 0 1;beast 1 0 1 1 0;");
        x.tick(0, 2, 0, 0);
        due(x.hurl(0, 0), 999);
        nowIs(x, 20, 0, 0, 0, 2, 0, NONE);
        x = spun("beast 20 2 10 3 4;");
        for (int k = 0; k < 6; k++) {
            x.tick(0, 2, 0, 0);
        }
        nowIs(x, 43, 10, 60, 90, 11, 1, 4);
        due(x.hurl(1, 0), 999);
        nowIs(x, 20, 0, 0, 90, 12, 0, NONE);
    }

    private static void closes() {
        promise = 13;
        SpunLoop x = spun("");
        x.tick(0, 1, 8, 0);
        nowIs(x, 52, 9, 9, 39, 6, 0, 0);
        due(x.close(), 7);
        nowIs(x, 20, 0, 0, 19, 7, 0, NONE);
        due(x.close(), 8);
        nowIs(x, 20, 0, 0, 9, 8, 0, NONE);
        x = of("rope 40 0 1;");
        x.tick(0, 2, 0, 15);
        due(x.now(0), 0);
        due(x.close(), 2);
        due(x.now(0), 20);
        due(new SpunLoop().close(), STATE);
    }

    private static void nows() {
        promise = 14;
        SpunLoop x = of("rope 40 0 0;");
        nowIs(x, 20, 0, 0, 0, 0, 0, NONE);
        due(x.now(7), BAD);
        due(x.now(-1), BAD);
        due(new SpunLoop().now(7), BAD);
        due(new SpunLoop().now(6), STATE);
    }

    private static void pieces() {
        promise = 15;
        SpunLoop x = spun("");
        // SIZE 43: four in the loop, the eye, five of the spoke.
        int[] want = {2, 2, 2, 2, 3, 1, 1, 1, 1, 1, 0, 0};
        for (int i = 0; i < want.length; i++) {
            due(x.piece(i), want[i]);
        }
        due(x.piece(39), 0);
        due(x.piece(40), BAD);
        due(x.piece(-1), BAD);
        x = of("rope 49 0 1;");
        int[] few = {2, 2, 3, 1};
        for (int i = 0; i < few.length; i++) {
            due(x.piece(i), few[i]);
        }
        due(x.piece(4), BAD);
        x.tick(0, 2, 0, 0);
        due(x.piece(0), 3);
        due(x.piece(1), 1);
        due(new SpunLoop().piece(0), STATE);
    }

    private static void oddsAre(SpunLoop x, int how, int beast, long above, long below) {
        due(x.odds(how, beast, 0), above);
        due(x.odds(how, beast, 1), below);
    }

    private static void oddsOfThrows() {
        promise = 16;
        SpunLoop x = spun("beast 20 2 10 3 4;beast 20 2 10 2 12;");
        oddsAre(x, 0, 0, 2, 3);
        oddsAre(x, 1, 0, 1, 1);
        oddsAre(x, 0, 1, 0, 1);
        oddsAre(x, 1, 1, 1, 3);
        nowIs(x, 43, 10, 0, 30, 5, 0, 0);
        // SPINS 7 to 13 at D 20, PACE 2: t is 4, 4, 3, 3, 3, 2, 2; flat leaves 9, 9, 15, 15, 15, 21, 21.
        x = spun("horse 0 0 3;beast 20 2 10 3 4;beast 20 2 26 2 4;beast 20 2 31 2 4;");
        oddsAre(x, 0, 0, 2, 3);
        oddsAre(x, 1, 0, 3 * 12 + 4 * 4, 84, 13, 21);
        oddsAre(x, 0, 1, 16, 84, 4, 21);
        oddsAre(x, 1, 1, 4 * 12 + 3 * 4, 84, 5, 7);
        oddsAre(x, 0, 2, 16, 84, 4, 21);
        // At first SPIN is 0, and none is below that.
        x = of("rope 400 8 0;horse 0 0 3;beast 3 0 1 1 0;");
        oddsAre(x, 0, 0, 3, 7);
        due(x.hurl(0, 0), 500);
        x = of("rope 40 0 1;beast 1 0 1 1 0;");
        x.tick(0, 2, 0, 0);
        oddsAre(x, 0, 0, 0, 1);
        due(x.odds(2, 0, 0), BAD);
        due(x.odds(-1, 0, 0), BAD);
        due(x.odds(0, 1, 0), BAD);
        due(x.odds(0, -1, 0), BAD);
        due(x.odds(0, 0, 2), BAD);
        due(x.odds(0, 0, -1), BAD);
        due(new SpunLoop().odds(0, 0, 0), BAD);
    }

    private static void oddsAre(SpunLoop x, int how, int beast, long sum, long whole, long above, long below) {
        due(sum * below, whole * above);
        oddsAre(x, how, beast, above, below);
    }

    private static void needs() {
        promise = 17;
        SpunLoop x = of("rope 40 0 0;rope 40 3 1;rope 40 9 0;");
        due(x.need(0), 4);
        due(x.need(19), 4);
        due(x.need(20), 5);
        due(x.need(200), 14);
        due(x.need(201), BAD);
        due(x.need(-1), BAD);
        x.take(1, NONE);
        due(x.need(59), 8);
        x.take(2, NONE);
        due(x.need(0), 2);
        due(new SpunLoop().need(0), STATE);
        due(new SpunLoop().need(-1), BAD);

        promise = 18;
        due(x.greatest(0), NONE);
        due(x.greatest(1), NONE);
        due(x.greatest(2), 19);
        due(x.greatest(15), 279);
        due(x.greatest(16), BAD);
        due(x.greatest(-1), BAD);
        x.take(1, NONE);
        due(x.greatest(5), NONE);
        due(x.greatest(6), 19);
        due(new SpunLoop().greatest(0), STATE);
        due(new SpunLoop().greatest(16), BAD);
    }

    private static void outs() {
        promise = 19;
        SpunLoop x = of("rope 400 0 0;");
        due(x.out(10, 1), 0);
        due(x.out(10, 2), 0);
        due(x.out(10, 3), 2);
        due(x.out(10, 24), 9);
        due(x.out(10, 25), 10);
        due(x.out(0, 40), 0);
        due(x.out(15, 40), 15);
        // With a TWIST of 24 there is no room above.
        for (int k = 0; k < 4; k++) {
            x.tick(0, 4, 9, k == 0 ? 0 : k);
        }
        due(x.now(2), 14);
        due(x.out(10, 1), 0);
        due(x.out(11, 1), 1);
        due(x.out(10, 4), 8);
        due(x.out(10, 40), 10);
        x = of("rope 400 0 0;");
        x.tick(0, 4, 0, 15);
        x.tick(0, 4, 0, 15);
        due(x.now(2), -24);
        due(x.out(15, 3), 0);
        due(x.out(15, 4), 3);
        due(x.out(10, 40), 9);
        due(x.out(15, 0), BAD);
        due(x.out(15, 41), BAD);
        due(x.out(16, 1), BAD);
        due(x.out(-1, 1), BAD);
        due(new SpunLoop().out(1, 1), STATE);
        due(new SpunLoop().out(1, 0), BAD);
        // A twist of -60, far beyond the limit: a tick could not bring it back.
        x = of("rope 400 0 0;");
        x.tick(0, 4, 9, 15);
        x.tick(0, 3, 9, 15);
        due(x.now(2), -25);
        due(x.out(0, 1), NONE);
        due(x.out(15, 1), 0);
        due(x.out(1, 1), 0);
        due(x.out(3, 1), 0);
    }

    private static void wraps() {
        promise = 20;
        SpunLoop x = new SpunLoop();
        due(x.wraps(1, 1), 0);
        due(x.wraps(3, 1), 1);
        due(x.wraps(4, 1), 2);
        due(x.wraps(19683, 1), 9);
        due(x.wraps(19684, 1), NONE);
        due(x.wraps(999999, 50), NONE);
        due(x.wraps(999999, 51), 9);
        due(x.wraps(99, 99), 0);
        due(x.wraps(0, 1), BAD);
        due(x.wraps(1000000, 1), BAD);
        due(x.wraps(1, 0), BAD);
        due(x.wraps(1, 100), BAD);
        due(x.wraps(LEAST, MOST), BAD);
    }

    private static final String RUN = "rope 400 8 0;horse 0 0 3;beast 20 2 10 3 4;beast 20 2 26 2 4;rule 13 5 7 2;"
        + "spin 3 4 8 4;spin 2 4 8 10;flat 0;edge 1;close;stand 1 4 0 15;spin 40 0 0 0;spin 1 4 0 0;flat 0;";

    private static void toldIs(SpunLoop x, int act, long... numbers) {
        for (int what = 0; what < numbers.length; what++) {
            due(x.told(act, what), numbers[what]);
        }
    }

    private static void tolds() {
        promise = 21;
        SpunLoop x = of(RUN);
        toldIs(x, -1, 20, 0, 0, 0, 0, 0, NONE, NONE);
        toldIs(x, 0, 25, 6, 0, 12, 3, 0, NONE, 0);
        toldIs(x, 1, 43, 10, -2, 30, 5, 0, NONE, 0);
        toldIs(x, 2, 20, 0, 0, 30, 6, 0, 0, NONE);
        toldIs(x, 3, 20, 0, 0, 30, 7, 0, 500, NONE);
        toldIs(x, 4, 20, 0, 0, 15, 8, 0, NONE, NONE);
        toldIs(x, 5, 11, 2, -6, 17, 9, 0, NONE, 2);
        // SPIN 0 lacks 2 of a size of 11: 1, then 0.
        toldIs(x, 6, 0, 0, -6, 17, 11, 0, NONE, 3);
        toldIs(x, 7, 0, 0, -6, 17, 11, 0, NONE, NONE);
        toldIs(x, 8, 20, 0, 0, 17, 12, 0, 999, NONE);
        due(x.told(9, 0), BAD);
        due(x.told(-2, 0), BAD);
        due(x.told(0, 8), BAD);
        due(x.told(0, -1), BAD);
        due(new SpunLoop().told(0, 8), STATE);
        // THE LIVE LOOP is not that of the run, but the rope taken is.
        nowIs(x, 20, 0, 0, 0, 0, 0, NONE);
        x = of("rope 400 8 0;rope 40 0 1;spin 1 2 0 0;");
        due(x.told(0, 0), 5);
        due(x.told(0, 7), 2);
        x.take(1, NONE);
        due(x.told(0, 0), 0);
        due(x.told(0, 7), 3);
    }

    private static void allIs(SpunLoop x, long above, long below) {
        due(x.all(0), above);
        due(x.all(1), below);
    }

    private static void alls() {
        promise = 22;
        allIs(of("rope 40 0 0;close;"), 1, 1);
        allIs(of(RUN), 0, 1);
        String good = "spin 5 4 8 6;";
        // 2 by 3, 13 by 21, once more 2 by 3.
        SpunLoop x = of("rope 400 8 0;horse 0 0 3;beast 20 2 10 3 4;" + good + "flat 0;" + good + "edge 0;" + good + "flat 0;");
        allIs(x, 52, 189);
        x.take(0, NONE);
        allIs(x, 4, 9);
        due(x.all(2), BAD);
        due(x.all(-1), BAD);
        due(new SpunLoop().all(0), STATE);
        due(new SpunLoop().all(2), BAD);
        // 13 by 21 over and over: 21 to the ninth is 794280046581, one more is too fine.
        String edge = good + "edge 0;";
        x = of("rope 400 8 0;horse 0 0 3;beast 20 2 10 3 4;" + edge.repeat(9));
        allIs(x, 10604499373L, 794280046581L);
        x = of("rope 400 8 0;horse 0 0 3;beast 20 2 10 3 4;" + edge.repeat(10));
        allIs(x, NONE, NONE);
    }

    private static void scores() {
        promise = 23;
        // flat 0: 2 by 3, 5; edge 1 by a loop that was thrown: 2 less; flat 0 by a shut one: 2 less.
        due(of(RUN).score(), 5 - 2 - 2);
        String good = "spin 5 4 8 6;";
        String two = good + "flat 0;" + good + "edge 0;";
        String head = "rope 400 8 0;beast 20 2 10 3 4;";
        due(of(head + two).score(), 2);
        due(of(head + "rule 11 5 7 2;" + two).score(), 12);
        // The throws are at ticks 5 and 11.
        due(of(head + "rule 10 5 7 2;" + two).score(), 5);
        due(of(head + "rule 5 5 7 2;" + two).score(), 5);
        due(of(head + "rule 4 5 7 2;" + two).score(), 0);
        due(of(head + "rule 1 5 7 2;flat 0;flat 0;flat 0;").score(), -4);
        // Half is enough, less is not.
        due(of("rope 400 8 0;beast 20 2 10 3 6;rule 9 5 7 2;" + good + "flat 0;").score(), 5);
        due(of("rope 400 8 0;beast 20 2 10 3 7;rule 9 5 7 2;" + good + "flat 0;").score(), -2);
        due(of("rope 400 8 0;close;").score(), 0);
        due(new SpunLoop().score(), STATE);
    }

    private static void bestIs(SpunLoop x, int beast, long at, long above, long below) {
        due(x.best(beast, 0), at);
        due(x.best(beast, 1), above);
        due(x.best(beast, 2), below);
    }

    private static void bests() {
        promise = 24;
        String head = "rope 400 8 0;beast 20 2 10 3 4;";
        String good = "spin 5 4 8 6;";
        // Tick 3: SIZE 25, t is 5, an edge of 4 with nothing left; tick 4: SIZE 33, t is 4, the same; tick 5:
        // SIZE 43, t is 3, an edge of 12 and a flat of 8.
        bestIs(of(head + "spin 4 4 8 6;"), 0, 7, 1, 3);
        bestIs(of(head + good), 0, 11, 1, 1);
        bestIs(of(head + good + "spin 1 2 8 10;"), 0, 11, 1, 1);
        bestIs(of(head + "spin 1 4 8 6;"), 0, NONE, 0, 1);
        // Only up to the first act that is no spin, stand.
        bestIs(of(head + "spin 4 4 8 6;close;" + good), 0, 7, 1, 3);
        bestIs(of(head + "flat 0;" + good), 0, NONE, 0, 1);
        bestIs(of(head), 0, NONE, 0, 1);
        // Ahead of all; flat ahead of edge.
        bestIs(of("rope 400 8 0;horse 0 0 1;beast 1 0 1 1 0;" + "close;"), 0, 0, 1, 3);
        bestIs(of("rope 400 8 0;horse 0 0 1;beast 1 0 1 1 1;" + "close;"), 0, 1, 1, 3);
        SpunLoop x = of(head + good);
        due(x.best(1, 0), BAD);
        due(x.best(-1, 0), BAD);
        due(x.best(0, 3), BAD);
        due(x.best(0, -1), BAD);
        due(new SpunLoop().best(0, 0), BAD);
    }

    private static void rowIs(SpunLoop x, int n, long worth, int... moves) {
        due(x.moves(n, -1), worth);
        for (int i = 0; i < moves.length; i++) {
            due(x.moves(n, i), moves[i]);
        }
        due(x.moves(n, moves.length), NONE);
    }

    private static void rowsOfMoves() {
        promise = 25;
        SpunLoop x = spun("beast 20 2 10 3 4;rule 99 5 7 2;");
        // SPIN 10: an edge of 12 now; that counts more than a flat, and later than a tick when there is time.
        rowIs(x, 1, 7, 7);
        x.moves(2, 0);
        // Behind UP 1 SPIN is 9, t is 3 still.
        rowIs(x, 2, 7, 0, 7);
        rowIs(x, 3, 7, 0, 2, 7);
        // What is asked changes nothing.
        nowIs(x, 43, 10, 0, 30, 5, 0, 0);
        rowIs(spun("beast 20 2 10 3 4;rule 99 7 7 2;"), 1, 7, 6);
        rowIs(spun("beast 20 2 10 3 4;rule 99 8 7 2;"), 1, 8, 6);
        // Too late to count, so that the first row is best.
        rowIs(spun("beast 20 2 10 3 4;rule 4 8 7 2;"), 2, 0, 0, 0);
        rowIs(spun("beast 20 2 10 3 4;rule 5 8 7 2;"), 2, 8, 6, 0);
        // Two beasts, one throw each: the second from a loop that begins anew, which misses.
        rowIs(spun("beast 20 2 10 3 4;beast 20 2 10 3 4;rule 99 8 7 2;"), 2, 8, 0, 6);
        rowIs(spun("beast 1 0 1 1 0;beast 20 2 10 3 4;rule 99 8 0 2;"), 1, 8, 6);
        // Shut: no tick, only a throw, which misses; then it goes on.
        x = of("rope 40 0 1;beast 1 0 1 1 0;rule 99 8 7 2;");
        x.tick(0, 2, 0, 0);
        rowIs(x, 1, -2, 6);
        rowIs(x, 2, -2, 6, 0);
        rowIs(x, 3, -2, 6, 0);
        x = of("rope 40 0 1;");
        x.tick(0, 2, 0, 0);
        rowIs(x, 5, 0);
        due(x.moves(5, 0), NONE);
        due(x.moves(5, MOST), NONE);
        due(x.moves(0, 0), BAD);
        due(x.moves(6, 0), BAD);
        due(x.moves(1, -2), BAD);
        due(x.moves(1, LEAST), BAD);
        due(new SpunLoop().moves(1, 0), STATE);
        due(new SpunLoop().moves(6, 0), BAD);
        // A row that was found does not outlive a change of what it was found for.
        x = spun("beast 20 2 10 3 4;rule 99 5 7 2;");
        x.image(0);
        rowIs(x, 1, 7, 7);
        x.hurl(0, 0);
        rowIs(x, 1, 0, 0);
        x.restore(0);
        rowIs(x, 1, 7, 7);
        feed(x, "rope 400 8 0;beast 20 2 10 3 4;rule 99 9 7 2;");
        x.way();
        rowIs(x, 1, 0, 0);
        // The same first loop, by another rope and another rule: one falls to 10 at SPIN 1, one shuts at once.
        x = of("rope 400 9 0;rope 40 0 1;beast 1 0 1 1 0;rule 99 8 7 2;");
        rowIs(x, 2, 8, 4, 6);
        x.take(1, NONE);
        rowIs(x, 2, -2, 0, 6);
        x.take(0, NONE);
        rowIs(x, 2, 8, 4, 6);
        feed(x, "rope 400 9 0;beast 1 0 1 1 0;rule 99 8 9 2;");
        x.way();
        rowIs(x, 2, 9, 4, 7);
        x.image(0);
        feed(x, "rope 400 9 0;beast 1 0 1 1 0;rule 99 3 1 2;");
        x.way();
        rowIs(x, 2, 3, 4, 6);
        x.restore(0);
        rowIs(x, 2, 9, 4, 7);
        // UP 3, LET 8 is what makes the loop large enough; LET 4 is not.
        rowIs(spun("beast 33 0 36 1 0;rule 99 8 0 2;"), 2, 8, 5, 6);
        rowIs(spun("beast 33 0 37 1 0;rule 99 8 0 2;"), 2, 0, 0, 0);
    }

    private static void fewestTicks() {
        promise = 26;
        SpunLoop x = spun("");
        due(x.fewest(1, 0), 0);
        due(x.fewest(43, 0), 0);
        due(x.fewest(44, 0), NONE);
        // Faster each time, with all that can be let: 11, 12, 13 more.
        due(x.fewest(44, 1), 1);
        due(x.fewest(54, 12), 1);
        due(x.fewest(55, 12), 2);
        due(x.fewest(66, 12), 2);
        due(x.fewest(67, 12), 3);
        due(x.fewest(67, 2), NONE);
        due(x.fewest(200, 12), 12);
        due(x.fewest(0, 0), BAD);
        due(x.fewest(201, 0), BAD);
        due(x.fewest(1, -1), BAD);
        due(x.fewest(1, 13), BAD);
        nowIs(x, 43, 10, 0, 30, 5, 0, 0);
        due(new SpunLoop().fewest(1, 0), STATE);
        due(new SpunLoop().fewest(1, 13), BAD);
        // From SPIN 15: a tired arm turns by 14 five times, then by 13: 98, 112, 126, 140, 154, 167, 180, 193.
        x = of("rope 400 9 0;");
        for (int k = 1; k <= 8; k++) {
            x.tick(0, 4, 8, Math.min(15, 2 * k));
        }
        nowIs(x, 84, 15, 0, 71, 8);
        due(x.fewest(98, 12), 1);
        due(x.fewest(154, 12), 5);
        due(x.fewest(155, 12), 6);
        due(x.fewest(193, 12), 8);
        due(x.fewest(194, 12), 9);
        due(x.fewest(200, 12), 9);
        due(x.fewest(200, 8), NONE);
        // Not more than the room.
        x = of("rope 99 9 0;");
        for (int k = 1; k <= 5; k++) {
            x.tick(0, 4, 8, 2 * k);
        }
        due(x.fewest(49, 12), 1);
        due(x.fewest(50, 12), NONE);
        // Shut, kinked: as it is, or never.
        x = of("rope 40 0 1;");
        x.tick(0, 2, 0, 0);
        due(x.fewest(1, 12), NONE);
        x = spun("");
        for (int k = 0; k < 6; k++) {
            x.tick(0, 2, 0, 0);
        }
        due(x.now(5), 1);
        due(x.fewest(43, 12), 0);
        due(x.fewest(44, 12), NONE);
    }

    private static void showIs(String forms, int... row) {
        SpunLoop x = of("rope 40 0 0;" + forms);
        due(x.show(-1), row.length);
        for (int i = 0; i < row.length; i++) {
            due(x.show(i), row[i]);
        }
        due(x.show(row.length), NONE);
        due(x.show(MOST), NONE);
        due(x.show(-2), BAD);
    }

    private static void shows() {
        promise = 27;
        showIs("");
        showIs("form 1 2 3 4;", 0);
        // Alike by their numbers, but two.
        showIs("form 1 2 3 4;form 1 2 3 4;", 0, 1);
        showIs("form 1 2 3 4;form 4 5 24 30;", 0, 1);
        showIs("form 1 2 3 4;form 5 5 24 30;", 0);
        showIs("form 1 2 3 4;form 4 5 25 30;", 0);
        // 1 goes with both others, which do not go with one another.
        showIs("form 8 8 0 0;form 6 6 0 0;form 4 4 0 0;", 0, 1, 2);
        showIs("form 6 6 0 0;form 8 8 0 0;form 4 4 0 0;", 1, 0, 2);
        // A way that seems good at first does not reach all.
        showIs("form 4 4 0 0;form 2 2 0 0;form 6 6 0 0;form 8 8 0 0;form 0 0 0 0;form 15 15 0 0;", 3, 2, 0, 1, 4);
        showIs("form 0 0 0 0;".repeat(6), 0, 1, 2, 3, 4, 5);
        due(new SpunLoop().show(0), STATE);
        due(new SpunLoop().show(-2), BAD);
    }

    private static void learnIs(SpunLoop x, int from, int to, long tries, long rope) {
        due(x.learn(from, to, 0), tries);
        due(x.learn(from, to, 1), rope);
    }

    private static void learns() {
        promise = 28;
        // LENGTH by 50 and STIFF: 0, 1, 10.
        SpunLoop x = of("rope 49 0 0;rope 50 0 0;rope 400 2 0;");
        learnIs(x, 0, 0, 0, NONE);
        learnIs(x, 50, 20, 0, NONE);
        learnIs(x, 0, 10, 1, 0);
        learnIs(x, 0, 11, 2, 0);
        learnIs(x, 0, 20, 2, 0);
        // From 10 the second gives 10, the first 9.
        learnIs(x, 10, 20, 1, 1);
        learnIs(x, 10, 19, 1, 0);
        // From 90 the third gives 9, the others less; 100 at most.
        learnIs(x, 90, 99, 1, 2);
        learnIs(x, 90, 100, 2, 0);
        learnIs(x, 99, 100, 1, 0);
        // A rope that is much too hard teaches nothing.
        learnIs(of("rope 400 9 0;"), 0, 1, NONE, NONE);
        learnIs(of("rope 400 9 0;"), 79, 80, NONE, NONE);
        learnIs(of("rope 400 9 0;"), 80, 81, 1, 0);
        // As slow as can be: 1 more up to 10, 2 more up to 20 ..
        SpunLoop y = of("rope 400 1 0;");
        learnIs(y, 0, 10, 10, 0);
        learnIs(y, 0, 20, 15, 0);
        learnIs(y, 0, 30, 19, 0);
        learnIs(y, 0, 93, 29, 0);
        learnIs(y, 0, 94, 30, 0);
        learnIs(y, 0, 100, 30, 0);
        due(x.learn(-1, 0, 0), BAD);
        due(x.learn(101, 0, 0), BAD);
        due(x.learn(0, -1, 0), BAD);
        due(x.learn(0, 101, 0), BAD);
        due(x.learn(0, 0, 2), BAD);
        due(x.learn(0, 0, -1), BAD);
        due(new SpunLoop().learn(0, 0, 0), STATE);
        due(new SpunLoop().learn(0, 0, 2), BAD);
    }

    private static void films() {
        promise = 29;
        SpunLoop x = of("rope 400 9 0;rope 40 0 1;");
        x.row(0, 1, 20);
        // UP 3: SPIN 1, 2, 3 ..; NEED 3 of 20, then 2: 10, and so on.
        int[] sizes = {10, 11, 12, 14, 16, 19, 22};
        for (int k = 0; k < sizes.length; k++) {
            x.set(0, k, sizes[k]);
        }
        due(x.film(0, 0, 1), 448);
        due(x.film(0, 0, 2), 128);
        due(x.film(0, 0, 7), 128);
        due(x.film(0, 0, 8), 0);
        due(x.film(0, 1, 1), 0);
        x.set(0, 1, 10);
        x.set(0, 2, 10);
        due(x.film(0, 0, 3), 64);
        x.set(0, 1, 12);
        x.set(0, 2, 15);
        due(x.film(0, 0, 3), 256);
        // UP 1, 2: SPIN 0, which lacks 3, then 2: 5, then shut.
        x.set(0, 0, 5);
        x.set(0, 1, 0);
        x.set(0, 2, 0);
        due(x.film(0, 0, 3), 63);
        x.set(0, 2, 1);
        due(x.film(0, 0, 3), 0);
        // By the rope that is taken all shut at once.
        x.take(1, NONE);
        due(x.film(0, 7, 13), 511);
        due(x.film(0, 7, 14), PLACE);
        due(x.film(0, -1, 1), PLACE);
        due(x.film(0, MOST, 1), PLACE);
        due(x.film(0, 20, 1), PLACE);
        due(x.film(1, -1, 1), NULL);
        due(x.film(0, 0, 0), BAD);
        due(x.film(0, 0, 21), BAD);
        due(x.film(8, 0, 1), BAD);
        due(x.film(-1, 0, 1), BAD);
        SpunLoop y = new SpunLoop();
        due(y.film(0, -1, 1), STATE);
        due(y.film(0, 0, 21), BAD);
    }

    private static void images() {
        promise = 30;
        SpunLoop x = new SpunLoop();
        due(x.image(0), STATE);
        due(x.image(2), BAD);
        due(x.image(-1), BAD);
        due(x.restore(0), STATE);
        due(x.restore(2), BAD);
        due(x.restore(-1), BAD);
        feed(x, "rope 40 0 0;rope 400 8 0;horse 0 0 3;horse 0 0 0;beast 20 2 10 3 4;close;");
        x.way();
        x.take(1, 1);
        for (int k = 1; k <= 5; k++) {
            x.tick(0, 4, 8, 2 * k);
        }
        due(x.image(0), 1);
        due(x.count(8), 1);
        due(x.restore(1), STATE);

        promise = 31;
        feed(x, "rope 60 0 0;flat 0;");
        due(x.way(), NOT - 100 - 17);
        feed(x, "rope 60 0 0;");
        due(x.way(), 0);
        due(x.image(1), 1);
        due(x.count(8), 2);
        x.row(0, 0, 3);
        x.feed(32, 1);
        due(x.restore(0), 1);
        nowIs(x, 43, 10, 0, 30, 5, 0, 0);
        due(x.count(1), 2);
        due(x.count(5), 1);
        due(x.need(0), 2);
        oddsAre(x, 1, 0, 1, 1);
        // Rows, the tape, the fault, the images are no part of it.
        due(x.count(0), 1);
        due(x.count(7), 1);
        due(x.count(8), 2);
        due(x.fault(), 2);
        x.tick(0, 2, 0, 0);
        x.take(0, NONE);
        due(x.restore(0), 1);
        nowIs(x, 43, 10, 0, 30, 5, 0, 0);
        due(x.restore(1), 1);
        due(x.count(1), 1);
        due(x.image(0), 1);
        due(x.restore(0), 1);
        due(x.count(1), 1);
        due(x.count(8), 2);
    }

    private static final String ACTS = "rope 40 0 0;beast 7 0 1 1 0;beast 30 0 1 1 0;"
        + "close;spin 4 2 9 3;stand 5 2 8 3;flat 0;edge 1;close;";

    private static void kinds() {
        promise = 32;
        SpunLoop x = of(ACTS);
        int[] told = {6, 2, 3, 4, 5, 6};
        for (int act = 0; act < told.length; act++) {
            due(x.kind(act), told[act]);
        }
        due(x.kind(6), BAD);
        due(x.kind(-1), BAD);
        due(new SpunLoop().kind(0), BAD);

        promise = 33;
        String[] fits = {"1000001", "1110000", "1101000", "1000100", "1000110", "1000001"};
        for (int act = 0; act < told.length; act++) {
            for (int kind = 0; kind <= 6; kind++) {
                boolean is = fits[act].charAt(kind) == '1';
                due(x.as(act, kind), is ? act : KIND);
                due(x.status(), is ? 0 : 3);
            }
        }
        due(x.as(0, 7), BAD);
        due(x.as(0, -1), BAD);
        due(x.as(6, 0), BAD);
        due(x.as(-1, 0), BAD);
        due(new SpunLoop().as(0, 0), BAD);
    }

    private static void askIs(SpunLoop x, int act, int what, long answer, int... bodies) {
        due(x.ask(act, what), answer);
        for (int i = 0; i < bodies.length; i++) {
            due(x.trace(i), bodies[i]);
        }
        due(x.trace(bodies.length), NONE);
    }

    private static void asks() {
        promise = 34;
        SpunLoop x = of(ACTS);
        askIs(x, 0, 0, 1, 10);
        askIs(x, 0, 1, 0, 23, 20);
        askIs(x, 5, 1, -5, 23, 20);
        askIs(x, 1, 0, 5, 11, 10);
        askIs(x, 1, 1, 1 + 9 + 5, 22, 21, 20, 11, 10);
        askIs(x, 2, 0, 12, 12, 11, 10);
        askIs(x, 2, 1, 2 + 8, 21, 20);
        askIs(x, 3, 0, 8, 13, 10);
        askIs(x, 3, 1, 3, 20);
        askIs(x, 4, 1, 54, 24, 20);
        askIs(x, 4, 0, 31 - 54, 14, 13, 10, 24, 20);
        due(x.ask(6, 0), BAD);
        due(x.ask(-1, 0), BAD);
        due(x.ask(0, 2), BAD);
        due(x.ask(0, -1), BAD);
        due(new SpunLoop().ask(0, 0), BAD);

        promise = 35;
        // What is refused leaves the trace.
        due(x.trace(0), 14);
        due(x.trace(4), 20);
        due(x.trace(5), NONE);
        due(x.trace(16), NONE);
        due(x.trace(-1), NONE);
        due(x.trace(LEAST), NONE);
        due(x.trace(MOST), NONE);
        due(new SpunLoop().trace(0), NONE);
    }

    private static void counts() {
        promise = 36;
        SpunLoop x = of(ACTS);
        x.row(3, 0, 0);
        x.row(4, 0, 1);
        x.row(4, 0, 2);
        x.feed(0, 3);
        x.image(1);
        x.image(1);
        long[] want = {2, 1, 0, 2, 0, 6, 2, 3, 1};
        for (int what = 0; what < want.length; what++) {
            due(x.count(what), want[what]);
        }
        due(x.count(9), BAD);
        due(x.count(-1), BAD);
        x.drop(3);
        due(x.count(0), 1);
    }

    private static void statuses() {
        promise = 37;
        SpunLoop x = of(ACTS);
        due(x.status(), 0);
        due(x.row(0, 0, -1), SIZE);
        due(x.status(), 4);
        due(x.row(0, 0, 41), BAD);
        due(x.set(8, 0, 0), BAD);
        due(x.as(9, 0), BAD);
        due(x.film(0, 0, 0), BAD);
        due(x.feed(0, 9), BAD);
        due(x.status(), 4);
        due(x.row(0, 0, 2), 2);
        due(x.status(), 0);
        due(x.set(1, 0, 0), NULL);
        due(x.status(), 1);
        due(x.set(0, 2, 0), PLACE);
        due(x.status(), 2);
        due(x.set(0, 1, 0), 0);
        due(x.status(), 0);
        x.row(1, 1, 2);
        due(x.copy(0, 0, 1, 0, 1), STORE);
        due(x.status(), 5);
        // Calls without a row leave it.
        x.tick(0, 2, 0, 0);
        x.count(0);
        x.way();
        due(x.status(), 5);
        due(x.copy(0, 0, 0, 0, 1), 1);
        due(x.status(), 0);
        due(x.as(0, 1), KIND);
        due(x.status(), 3);
        due(x.as(0, 6), 0);
        due(x.status(), 0);
        due(x.film(2, 0, 1), NULL);
        due(x.status(), 1);
        due(x.film(0, 2, 1), PLACE);
        due(x.status(), 2);
        x.film(0, 0, 1);
        due(x.status(), 0);
        due(x.drop(2), NULL);
        due(x.status(), 1);
        due(x.drop(0), 2);
        due(x.status(), 0);
        SpunLoop y = new SpunLoop();
        y.drop(0);
        due(y.film(0, 0, 1), STATE);
        due(y.status(), 1);
    }
}
