/** Boundaries of promises 6 to 10: the tape, what is read from it, what is taken. */
final class TextEdges extends Edges {
    private static final String ROPE = "rope 40 0 0;";
    private static final String HORSE = "horse 0 0 0;";
    private static final String BEAST = "beast 1 0 1 1 0;";
    private static final String FORM = "form 0 0 0 0;";
    private static final String RULE = "rule 1 0 0 0;";

    @Override
    void all() {
        feeds();
        fullTapes();
        waysThatAreRead();
        waysThatStay();
        firstTaken();
        ruleOfNone();
        fullWays();
        faultNumbers();
        signs();
        figures();
        numbersOfThings();
        pairsOfForms();
        beastsOfThrows();
        grammar();
        rooms();
        firstFaults();
        acts();
        takes();
    }

    // ---------------------------------------------------------------- promise 6

    private static void feeds() {
        test(6, "The lowest n bytes of w (1 to 8)", () -> {
            SpunLoop x = new SpunLoop();
            due(x.feed(32, 0), BAD);
            due(x.feed(32, 9), BAD);
            due(x.feed(32, -1), BAD);
            due(x.feed(32, LEAST), BAD);
            due(x.feed(32, MOST), BAD);
            due(x.count(7), 0);
            due(x.feed(32, 1), 1);
            due(x.feed(32, 8), 9);
        });
        test(6, "the highest of them first", () -> {
            SpunLoop x = new SpunLoop();
            x.feed(0x726f706520343020L, 8);
            x.feed(0x3020303bL, 4);
            due(x.way(), 0);
            due(x.count(1), 1);
        });
        test(6, "The lowest n bytes of w", () -> {
            SpunLoop x = new SpunLoop();
            // What stands above the lowest n does not come, whatever its sign.
            x.feed(0xffffffff726f7065L, 4);
            x.feed(0x4141412034302030L, 5);
            x.feed(0x8000000000000020L, 1);
            x.feed(0x30ff303bL & 0xffffL, 2);
            due(x.count(7), 12);
            due(x.way(), 0);
        });
        test(6, "come behind the tape: how many it has.", () -> {
            SpunLoop x = new SpunLoop();
            due(x.feed('r', 1), 1);
            due(x.feed('o', 1), 2);
            due(x.feed(0x7065, 2), 4);
            feed(x, " 40 0 0;");
            due(x.count(7), 12);
            due(x.way(), 0);
            due(x.feed(0, 3), 3);
        });
        test(6, "What is refused, or found, changes nothing but status().", () -> {
            refused(x -> x.feed(0x3b3b, 0), BAD);
            refused(x -> x.feed(0x3b3b, 9), BAD);
        });
    }

    private static SpunLoop tapeOf(int bytes) {
        SpunLoop x = new SpunLoop();
        feed(x, " ".repeat(bytes));
        return x;
    }

    private static void fullTapes() {
        test(6, "THE TAPE has at most 600 bytes", () -> {
            SpunLoop x = tapeOf(592);
            due(x.feed(0, 8), 600);
            due(x.feed(0, 1), FULL);
            due(x.count(7), 600);
        });
        test(6, "FULL: none comes.", () -> {
            SpunLoop x = tapeOf(593);
            due(x.feed(0, 8), FULL);
            due(x.count(7), 593);
            due(x.feed(0, 7), 600);
            x = tapeOf(599);
            due(x.feed(0, 2), FULL);
            due(x.feed(0, 1), 600);
        });
        test(6, "BAD: n; FULL", () -> {
            SpunLoop x = tapeOf(600);
            due(x.feed(0, 0), BAD);
            due(x.feed(0, 9), BAD);
            due(x.feed(0, 8), FULL);
            // The tape is empty behind a reading, so there is room again.
            x.way();
            due(x.feed(0, 8), 8);
        });
    }

    // ---------------------------------------------------------------- promise 7

    private static void waysThatAreRead() {
        test(7, "how many ACTS there are", () -> {
            SpunLoop x = new SpunLoop();
            feed(x, ROPE);
            due(x.way(), 0);
            feed(x, ROPE + "close;");
            due(x.way(), 1);
            feed(x, ROPE + "close;".repeat(20));
            due(x.way(), 20);
        });
        test(7, "The tape, empty then, is read", () -> {
            SpunLoop x = read(ROPE + "close;");
            due(x.count(7), 0);
            due(x.way(), NOT - 100);
            feed(x, ROPE + "?");
            due(x.way(), NOT - 100 - 12);
            due(x.count(7), 0);
            feed(x, ROPE);
            due(x.way(), 0);
        });
        test(7, "THE TAPE has at most 600 bytes", () -> {
            SpunLoop x = new SpunLoop();
            String text = ROPE + " ".repeat(600 - 12 - 6) + "close;";
            feed(x, text);
            due(x.count(7), 600);
            due(x.way(), 1);
            feed(x, text.substring(0, 599) + "#");
            due(x.way(), NOT - 100 - 599);
        });
        test(7, "THE LIVE LOOP is the first one.", () -> {
            SpunLoop x = atTen("");
            feed(x, STIFF);
            due(x.way(), 0);
            nowIs(x, 20, 0, 0, 0, 0, 0, NONE);
        });
        test(7, "A WAY that is read stands in place of the one before (none at first)", () -> {
            SpunLoop x = read(ROPE + ROPE + HORSE + BEAST + FORM + RULE + "close;flat 0;");
            feed(x, "rope 60 8 1;");
            due(x.way(), 0);
            due(x.count(1), 1);
            for (int what = 2; what <= 6; what++) {
                due(x.count(what), 0);
            }
            due(x.act(0, 0), BAD);
            due(x.need(0), 4);
            due(x.piece(5), 1);
            due(x.piece(6), BAD);
        });
        test(7, "A WAY that is read stands in place of the one before", () -> {
            // Nor does a rule outlive its way: none told is 200, 1, 1, 0.
            SpunLoop x = read(STIFF + "beast 1 0 1 1 0;rule 1 50 50 50;flat 0;");
            due(x.score(), -50);
            feed(x, STIFF + "beast 1 0 1 1 0;spin 2 4 0 3;flat 0;");
            x.way();
            due(x.score(), 1);
        });
    }

    private static void waysThatStay() {
        test(7, "NOT less 100 less the place of a FAULT: the WAY stays.", () -> {
            SpunLoop x = atTen("horse 1 0 0;beast 20 2 10 3 4;close;");
            feed(x, "rope 40 0 1;rope 40 0 1;beast 9 9 9 9 9;spin 1 1 1 1;spin 1 1 1 1;spin");
            due(x.way(), NOT - 100 - 70);
            due(x.count(1), 1);
            due(x.count(2), 1);
            due(x.count(3), 1);
            due(x.count(5), 1);
            due(x.kind(0), 6);
            // THE LIVE LOOP, the rope, the horse stay as well.
            nowIs(x, 43, 10, 0, 30, 5, 0, 0);
            due(x.need(0), 2);
            due(x.hurl(0, 0), -(43 - 2 * 6 - 10) - 1);
        });
        test(7, "NOT less 100 less the place", () -> {
            fault("", 0, 1);
            fault(";", 0, 1);
            fault(" ;", 1, 1);
            SpunLoop x = tapeOf(600);
            due(x.way(), NOT - 700);
        });
        test(7, "the WAY stays", () -> {
            SpunLoop x = new SpunLoop();
            feed(x, "rope 40 0 0");
            due(x.way(), NOT - 100 - 11);
            due(x.now(0), STATE);
            due(x.count(1), 0);
        });
    }

    private static void firstTaken() {
        test(7, "then ROPE 0 and HORSE 0 are TAKEN", () -> {
            SpunLoop x = read("rope 400 8 0;rope 40 0 1;horse 0 0 3;horse 0 0 0;beast 3 0 1 1 0;");
            x.take(1, 1);
            feed(x, "rope 400 8 0;rope 40 0 1;horse 0 0 3;horse 0 0 0;beast 3 0 1 1 0;");
            x.way();
            due(x.need(20), 3);
            // By a SHAKE of 3 three of seven SPINS reach it, by one of 0 none does.
            due(x.odds(0, 0, 0), 3);
            due(x.odds(0, 0, 1), 7);
        });
        test(7, "(no HORSE told: LAG 0, NEAR 0, SHAKE 0)", () -> {
            // Nor is the horse of the way before: by its LAG nothing would be between, by its SHAKE 13 reached it.
            SpunLoop x = read("rope 400 9 0;horse 20 0 3;beast 21 0 26 1 0;");
            feed(x, "rope 400 9 0;beast 21 0 26 1 0;");
            x.way();
            spun(x, 8, 2, 4, 6, 8, 10);
            due(x.odds(0, 0, 0), 0);
            due(x.odds(0, 0, 1), 1);
            due(x.hurl(0, 0), 1);
        });
    }

    private static void ruleOfNone() {
        // SPIN 2, 4, then 4 (or 3, when the arm is tired) up to a TICK near 200; a SIZE of 15 stays.
        String spins = "spin 2 4 0 4;" + "spin 40 2 0 4;".repeat(4);
        String near = STIFF + "beast 1 0 1 1 0;" + spins;
        test(7, "(1 to 200, 0 to 99 each; none: 200, 1, 1, 0)", () -> {
            due(read(near + "spin 38 2 0 4;flat 0;").score(), 1);
            due(read(near + "spin 39 2 0 4;flat 0;").score(), 0);
            due(read(near + "spin 38 2 0 4;edge 0;").score(), 1);
            due(read(STIFF + "beast 99 0 1 1 0;flat 0;edge 0;").score(), 0);
        });
    }

    // ---------------------------------------------------------------- promise 8

    private static void faultNumbers() {
        test(8, "The number of the latest FAULT; 0 before one.", () -> {
            SpunLoop x = new SpunLoop();
            due(x.fault(), 0);
            feed(x, ROPE);
            x.way();
            due(x.fault(), 0);
        });
        test(8, "the latest FAULT", () -> {
            SpunLoop x = new SpunLoop();
            x.way();
            due(x.fault(), 1);
            feed(x, "rope 39");
            x.way();
            due(x.fault(), 2);
            feed(x, ROPE.repeat(4));
            x.way();
            due(x.fault(), 3);
            // A text without one leaves it, and so does what is refused.
            feed(x, ROPE);
            x.way();
            due(x.fault(), 3);
            x.feed(0, 9);
            due(x.fault(), 3);
            x.way();
            due(x.fault(), 1);
        });
    }

    private static void signs() {
        test(8, "NAMES (letters a to z)", () -> {
            // The bytes beside a and z, and great letters.
            for (char c : new char[] {96, 123, 'A', 'Z', 'R', 64, 91}) {
                fault(ROPE + c, 12, 1);
                fault("rope" + c + " 40 0 0;", 4, 1);
            }
            fault("Rope 40 0 0;", 0, 1);
            fault("ropE 40 0 0;", 0, 1);
            fault("a", 0, 1);
            fault("z", 0, 1);
            fault("roper 40 0 0;", 0, 1);
            fault("rop 40 0 0;", 0, 1);
            fault("ropes", 0, 1);
            fault("ropez 40 0 0;", 0, 1);
            fault("ropea 40 0 0;", 0, 1);
            fault("r", 0, 1);
        });
        test(8, "( 'spin' | 'stand' )", () -> {
            // Each word by all of its letters: another one, one less, one more are none.
            String[] words = {"rope", "horse", "beast", "form", "rule", "spin", "stand", "flat", "edge", "close"};
            for (String word : words) {
                String ahead = word.equals("rope") ? "" : ROPE;
                for (int k = 0; k < word.length(); k++) {
                    fault(ahead + word.substring(0, k) + "z" + word.substring(k + 1), ahead.length(), 1);
                }
                fault(ahead + word.substring(1), ahead.length(), 1);
                fault(ahead + word.substring(0, word.length() - 1), ahead.length(), 1);
                fault(ahead + word + "s", ahead.length(), 1);
            }
        });
        test(8, "SIGNS ;", () -> {
            // The bytes beside it, and others that could end a thing.
            for (char c : new char[] {58, 60, ',', '.', '\n', 0}) {
                fault("rope 40 0 0" + c, c == '\n' ? 12 : 11, 1);
            }
            fault(ROPE + ";", 12, 1);
            fault(";" + ROPE, 0, 1);
        });
        test(8, "bytes 32 and 10 between.", () -> {
            due(read("\n \nrope\n40 \n 0\n\n0 ;\n\nclose\n;\n ").count(5), 1);
            for (char c : new char[] {0, 9, 11, 12, 13, 31, 33, 127, 128, 160, 255}) {
                fault(ROPE + c, 12, 1);
                fault("rope" + c + "40 0 0;", 4, 1);
            }
            // None is needed where two TOKENS differ in sort; within one there is none.
            due(read("rope40 0 0;close;close;").count(5), 2);
            fault("ro pe 40 0 0;", 0, 1);
            fault("rope 4 0 0 0;", 5, 2);
            fault(ROPE + "closeclose;", 12, 1);
        });
        test(8, "or is none", () -> {
            fault("#", 0, 1);
            fault("rope 40 0 0;close#", 17, 1);
            fault("rope -40 0 0;", 5, 1);
            fault("rope +40 0 0;", 5, 1);
            fault("rope 4.0 0 0;", 5, 2);
            fault("rope 40.0 0 0;", 7, 1);
        });
    }

    private static void figures() {
        test(8, "NUMBERS (figures, 3 at most)", () -> {
            fault(ROPE + "0", 12, 1);
            due(read("rope 040 009 001;").count(1), 1);
            due(read("rope 400 00 000;").count(1), 1);
            fault("rope 0040 0 0;", 5, 1);
            fault("rope 4000 0 0;", 5, 1);
            fault("rope 40 0000 0;", 8, 1);
            fault("rope 40 0 0000;", 10, 1);
            fault("rope 40 0 0;close 0000;", 18, 1);
            fault(ROPE + BEAST + "flat 0000;", 33, 1);
            fault("rope 18446744073709551656 0 0;", 5, 1);
        });
        test(8, "figures", () -> {
            // The bytes beside 0 and 9.
            fault("rope 40 / 0;", 8, 1);
            fault("rope 40 : 0;", 8, 1);
            fault("rope 40 0/0;", 9, 1);
            fault("rope 40 9:0;", 9, 1);
            due(read("rope 109 0 0;").piece(9), 0);
            due(read("rope 109 0 0;").piece(10), BAD);
            due(read("rope 390 0 0;").piece(38), 0);
        });
    }

    /** A thing by its word with its numbers, number k being v instead. */
    private static String thing(String word, int[] numbers, int k, String v) {
        StringBuilder text = new StringBuilder(word);
        for (int i = 0; i < numbers.length; i++) {
            text.append(' ').append(i == k ? v : "" + numbers[i]);
        }
        return text.append(';').toString();
    }

    private static void numberIsWithin(String ahead, String word, int[] numbers, int k, int[] bounds) {
        int place = ahead.length() + thing(word, numbers, k, "?").indexOf('?');
        due(read(ahead + thing(word, numbers, k, "" + bounds[0])).fault(), 0);
        due(read(ahead + thing(word, numbers, k, "" + bounds[1])).fault(), 0);
        if (bounds[0] > 0) {
            fault(ahead + thing(word, numbers, k, "" + (bounds[0] - 1)), place, 2);
            fault(ahead + thing(word, numbers, k, "0"), place, 2);
        }
        fault(ahead + thing(word, numbers, k, "" + (bounds[1] + 1)), place, 2);
        fault(ahead + thing(word, numbers, k, "999"), place, 2);
        fault(ahead + thing(word, numbers, k, ";"), place, 1);
        fault(ahead + thing(word, numbers, k, "x"), place, 1);
        fault(ahead + thing(word, numbers, k, "?").substring(0, place - ahead.length()), place, 1);
    }

    private static void numbersOfThings() {
        String[] words = {"rope", "horse", "beast", "rule", "spin", "stand"};
        String[] sentences = {
            "rope: 'rope' LENGTH STIFF WET ';' (40 to 400, 0 to 9, 0 or 1",
            "horse: 'horse' LAG NEAR SHAKE ';' (0 to 20, 0 to 99, 0 to 3",
            "beast: 'beast' FAR PACE WIDE GAIT DUCK ';' (1 to 200, 0 to 15, 1 to 100, 1 to 9, 0 to 12",
            "rule: 'rule' SECONDS HEAD FEET MISS ';' (1 to 200, 0 to 99 each",
            "act: ( 'spin' | 'stand' ) TICKS UP LET TURN ';' (1 to 40, 0 to 4, 0 to 9, 0 to 15)",
            "act: ( 'spin' | 'stand' ) TICKS UP LET TURN ';' (1 to 40, 0 to 4, 0 to 9, 0 to 15)"};
        int[][] low = {{40, 0, 0}, {0, 0, 0}, {1, 0, 1, 1, 0}, {1, 0, 0, 0}, {1, 0, 0, 0}, {1, 0, 0, 0}};
        int[][] high = {{400, 9, 1}, {20, 99, 3}, {200, 15, 100, 9, 12}, {200, 99, 99, 99}, {40, 4, 9, 15},
            {40, 4, 9, 15}};
        for (int w = 0; w < words.length; w++) {
            for (int k = 0; k < low[w].length; k++) {
                int word = w;
                int number = k;
                // One test for each NUMBER of each sort.
                test(8, sentences[w], () -> {
                    String ahead = word == 0 ? "" : ROPE;
                    int[] bounds = {low[word][number], high[word][number]};
                    numberIsWithin(ahead, words[word], low[word], number, bounds);
                    numberIsWithin(ahead, words[word], high[word], number, bounds);
                });
            }
        }
    }

    private static void pairsOfForms() {
        test(8, "form: 'form' LOW HIGH SMALL BIG ';' (SPINS 0 to 15", () -> {
            due(read(ROPE + "form 0 15 0 0;form 15 15 0 0;").count(4), 2);
            fault(ROPE + "form 16 16 0 0;", 17, 2);
            fault(ROPE + "form 0 16 0 0;", 19, 2);
            fault(ROPE + "form 15 16 0 0;", 20, 2);
        });
        test(8, "SIZES 0 to 200", () -> {
            due(read(ROPE + "form 0 0 0 200;form 0 0 200 200;").count(4), 2);
            fault(ROPE + "form 0 0 201 201;", 21, 2);
            fault(ROPE + "form 0 0 0 201;", 23, 2);
            fault(ROPE + "form 0 0 200 201;", 25, 2);
        });
        test(8, "HIGH no less than LOW", () -> {
            due(read(ROPE + "form 5 5 0 0;").count(4), 1);
            fault(ROPE + "form 5 4 0 0;", 19, 2);
            fault(ROPE + "form 15 0 0 0;", 20, 2);
            // Of the same FORM, not of the one before.
            due(read(ROPE + "form 9 9 0 0;form 0 1 0 0;").count(4), 2);
        });
        test(8, "BIG than SMALL", () -> {
            due(read(ROPE + "form 0 0 9 9;").count(4), 1);
            fault(ROPE + "form 0 0 9 8;", 21 + 2, 2);
            fault(ROPE + "form 0 0 200 0;", 21 + 4, 2);
            // SIZES have nothing to do with SPINS.
            due(read(ROPE + "form 15 15 3 4;").count(4), 1);
        });
    }

    private static void beastsOfThrows() {
        test(8, "( 'flat' | 'edge' ) BEAST ';'", () -> {
            for (String word : new String[] {"flat", "edge"}) {
                fault(ROPE + word + " 0;", 17, 2);
                due(read(ROPE + BEAST + word + " 0;").act(0, 0), 0);
                fault(ROPE + BEAST + word + " 1;", 33, 2);
                due(read(ROPE + BEAST.repeat(4) + word + " 3;").act(0, 0), 3);
                fault(ROPE + BEAST.repeat(4) + word + " 4;", 81, 2);
                fault(ROPE + BEAST + word + ";", 32, 1);
                fault(ROPE + BEAST + word + " 0 0;", 35, 1);
            }
        });
        test(8, "'close' ';'", () -> {
            due(read(ROPE + "close;").kind(0), 6);
            fault(ROPE + "close 0;", 18, 1);
            fault(ROPE + "close", 17, 1);
            fault(ROPE + "close close;", 18, 1);
        });
    }

    private static void grammar() {
        test(8, "text: rope { rope } { horse } { beast } { form } [ rule ] { act }.", () -> {
            // All but the first rope may be left out.
            due(read(ROPE).fault(), 0);
            String[] sorts = {ROPE, HORSE, BEAST, FORM, RULE, "close;"};
            for (int a = 1; a < sorts.length; a++) {
                due(read(ROPE + sorts[a]).fault(), 0);
                fault(sorts[a] + ROPE, 0, 1);
            }
        });
        test(8, "rope { rope } { horse } { beast } { form } [ rule ] { act }", () -> {
            String[] sorts = {ROPE, HORSE, BEAST, FORM, RULE, "close;"};
            for (int a = 1; a < sorts.length; a++) {
                for (int b = 0; b < a; b++) {
                    // What stands behind a sort that comes later cannot stand there.
                    fault(ROPE + sorts[a] + sorts[b], 12 + sorts[a].length(), 1);
                    due(read(ROPE + (b == 0 ? "" : sorts[b]) + sorts[a]).fault(), 0);
                }
            }
        });
        test(8, "{ act }", () -> {
            String[] acts = {"spin 1 0 0 0;", "stand 1 0 0 0;", "flat 0;", "edge 0;", "close;"};
            for (String a : acts) {
                for (String b : acts) {
                    due(read(ROPE + BEAST + a + b).count(5), 2);
                }
                fault(ROPE + BEAST + a + RULE, 28 + a.length(), 1);
            }
        });
        test(8, "1 it cannot stand there", () -> {
            fault("40 0 0;", 0, 1);
            fault("rope rope 40 0 0;", 5, 1);
            fault("rope 40 0 close;", 10, 1);
            fault("rope 40 0;", 9, 1);
            fault("rope 40 0 0 0;", 12, 1);
            fault(ROPE + "rope;", 16, 1);
            fault(ROPE + "40", 12, 1);
            fault(ROPE + "roped 40 0 0;", 12, 1);
        });
        test(8, "(the end: how many bytes there are)", () -> {
            fault("", 0, 1);
            fault("  \n", 3, 1);
            fault("rope", 4, 1);
            fault("rope 40 0 0", 11, 1);
            fault("rope 40 0 0  \n ", 15, 1);
            fault(ROPE + "close", 17, 1);
            fault(ROPE + "close ", 18, 1);
        });
    }

    private static void rooms() {
        test(8, "ROPES 0 .. 2, 3 at most", () -> {
            due(read(ROPE.repeat(3)).count(1), 3);
            fault(ROPE.repeat(4), 36, 3);
            fault(ROPE.repeat(3) + "rope", 36, 3);
        });
        test(8, "HORSES 0 .. 2", () -> {
            due(read(ROPE + HORSE.repeat(3)).count(2), 3);
            fault(ROPE + HORSE.repeat(4), 12 + 36, 3);
        });
        test(8, "BEASTS 0 .. 3", () -> {
            due(read(ROPE + BEAST.repeat(4)).count(3), 4);
            fault(ROPE + BEAST.repeat(5), 12 + 64, 3);
        });
        test(8, "FORMS 0 .. 5", () -> {
            due(read(ROPE + FORM.repeat(6)).count(4), 6);
            fault(ROPE + FORM.repeat(7), 12 + 78, 3);
        });
        test(8, "ACTS 0 .. 19 (20 at most)", () -> {
            due(read(ROPE + BEAST + "close;".repeat(19) + "flat 0;").count(5), 20);
            for (String word : new String[] {"spin", "stand", "flat", "edge", "close"}) {
                fault(ROPE + BEAST + "close;".repeat(20) + word, 28 + 120, 3);
            }
            // Sorts of ACTS have one room for all.
            fault(ROPE + BEAST + "flat 0;close;".repeat(10) + "edge 0;", 28 + 130, 3);
        });
        test(8, "[ rule ]", () -> {
            due(read(ROPE + RULE).fault(), 0);
            // A second one cannot stand there, which is less than that there is no room.
            fault(ROPE + RULE + RULE, 25, 1);
        });
        test(8, "3 more of a sort than there is room for (its word).", () -> {
            // All sorts full at once are read.
            String text = ROPE.repeat(3) + HORSE.repeat(3) + BEAST.repeat(4) + FORM.repeat(6) + RULE + "close;".repeat(20);
            SpunLoop x = read(text);
            int[] most = {3, 3, 4, 6, 20};
            for (int k = 0; k < most.length; k++) {
                due(x.count(k + 1), most[k]);
            }
            // Only the word has it, whatever stands behind it.
            fault(ROPE.repeat(3) + "rope 39 #", 36, 3);
            fault(ROPE.repeat(3) + " \n rope", 39, 3);
        });
    }

    /** A text with as much of each sort as there is room for, no two of a sort alike. */
    private static String fullText() {
        StringBuilder text = new StringBuilder("rope 400 9 0;rope 300 4 1;rope 59 0 0;");
        text.append("horse 0 0 0;horse 20 99 3;horse 4 0 1;");
        text.append("beast 11 1 2 3 4;beast 22 5 6 7 8;beast 33 9 10 9 12;beast 40 0 30 1 0;");
        for (int k = 0; k < 6; k++) {
            text.append("form " + 2 * k + " " + 2 * k + " " + 20 * k + " " + 20 * k + ";");
        }
        text.append("rule 5 5 7 2;spin 5 4 8 6;flat 3;");
        for (int k = 2; k <= 18; k++) {
            text.append("spin " + k + " 1 " + k % 10 + " " + k % 16 + ";");
        }
        return text.append("edge 3;").toString();
    }

    private static void fullWays() {
        test(7, "ROPES 0 .. 2", () -> {
            SpunLoop x = read(fullText());
            long[][] ropes = {{2, 39}, {5, 29}, {4, 4}};
            for (int rope = 0; rope <= 2; rope++) {
                x.take(rope, 0);
                due(x.need(0), ropes[rope][0]);
                due(x.piece((int) ropes[rope][1]) >= 0 ? 1 : 0, 1);
                due(x.piece((int) ropes[rope][1] + 1), BAD);
            }
        });
        test(7, "HORSES 0 .. 2", () -> {
            // The last beast at TICK 5, SPIN 10: D is 40; 40, not less than its own; 20, where SPINS 10 and 11 are enough.
            SpunLoop x = read(fullText());
            long[][] odds = {{0, 1}, {0, 1}, {2, 3}};
            for (int horse = 0; horse <= 2; horse++) {
                x.take(0, horse);
                spun(x, 8, 2, 4, 6, 8, 10);
                due(x.odds(0, 3, 0), odds[horse][0]);
                due(x.odds(0, 3, 1), odds[horse][1]);
                due(x.score(), horse == 2 ? 5 : -2);
            }
        });
        test(7, "BEASTS 0 .. 3", () -> {
            SpunLoop x = spun(read(fullText()), 8, 2, 4, 6, 8, 10);
            // t is 2, 5, 30 (of 33 by 1: none), 4.
            long[] flat = {-(43 - 12 - 2) - 1, -(43 - 30 - 6) - 1, 500, 24 + 30 - 43};
            x.image(0);
            for (int beast = 0; beast <= 3; beast++) {
                x.restore(0);
                due(x.hurl(0, beast), flat[beast]);
            }
            x.restore(0);
            due(x.odds(0, 0, 0), 2);
            due(x.odds(0, 1, 0), 1);
            due(x.odds(1, 0, 1), 3);
            due(x.odds(1, 1, 1), 3);
            due(x.odds(1, 3, 1), 1);
        });
        test(7, "FORMS 0 .. 5", () -> {
            SpunLoop x = read(fullText());
            due(x.show(-1), 6);
            for (int k = 0; k < 6; k++) {
                due(x.show(k), k);
            }
        });
        test(7, "ACTS 0 .. 19", () -> {
            SpunLoop x = read(fullText());
            due(x.act(0, 0), 5);
            due(x.act(1, 0), 3);
            for (int k = 2; k <= 18; k++) {
                long[] numbers = {k, 1, k % 10, k % 16};
                for (int what = 0; what <= 3; what++) {
                    due(x.act(k, what), numbers[what]);
                }
            }
            due(x.act(19, 0), 3);
            due(x.kind(19), 5);
        });
    }

    private static void firstFaults() {
        test(8, "FAULTS, the first TOKEN that has one (its first byte)", () -> {
            fault("rope 39 10 2;", 5, 2);
            fault("rope 40 10 2;", 8, 2);
            fault("rope 40 10 #", 8, 2);
            fault("rope 39 #", 5, 2);
            fault("rope # 39", 5, 1);
            fault("rope  \n 401 0 0;", 8, 2);
            fault(ROPE + "  roop", 14, 1);
        });
        test(8, "of one TOKEN the least", () -> {
            // A NUMBER that cannot stand there is not looked at.
            fault("rope 40 0 0 999;", 12, 1);
            fault("999", 0, 1);
            fault(ROPE + "close 999;", 18, 1);
            // Nor is there room asked for by a word that cannot stand there.
            fault(ROPE.repeat(3) + HORSE + "rope", 48, 1);
            fault(ROPE + HORSE.repeat(3) + BEAST + "horse", 64, 1);
            fault(ROPE + FORM.repeat(6) + "close;form", 12 + 78 + 6, 1);
        });
        test(8, "2 a NUMBER that is not as told", () -> {
            fault("rope 40 0 2;", 10, 2);
            fault("rope 0 0 0;", 5, 2);
            fault("rope 000 0 0;", 5, 2);
            fault("rope 999 0 0;", 5, 2);
        });
    }

    // ---------------------------------------------------------------- promises 9, 10

    private static void acts() {
        String text = ROPE + BEAST.repeat(4) + "spin 40 4 9 15;stand 1 0 0 0;flat 3;edge 0;close;";
        test(9, "0 TICKS (a throw: the BEAST; close: NONE)", () -> {
            SpunLoop x = read(text);
            int[] first = {40, 1, 3, 0, NONE};
            for (int act = 0; act < 5; act++) {
                due(x.act(act, 0), first[act]);
            }
        });
        test(9, "1 UP, 2 LET, 3 TURN (NONE, if it is not spin, stand)", () -> {
            SpunLoop x = read(text);
            int[] spin = {0, 4, 9, 15};
            for (int what = 1; what <= 3; what++) {
                due(x.act(0, what), spin[what]);
                due(x.act(1, what), 0);
                due(x.act(2, what), NONE);
                due(x.act(3, what), NONE);
                due(x.act(4, what), NONE);
            }
        });
        test(9, "3 TURN (NONE, if it is not spin, stand). BAD.", () -> {
            SpunLoop x = read(text);
            due(x.act(-1, 0), BAD);
            due(x.act(5, 0), BAD);
            due(x.act(LEAST, 0), BAD);
            due(x.act(MOST, 0), BAD);
            due(x.act(0, -1), BAD);
            due(x.act(0, 4), BAD);
            due(x.act(4, 4), BAD);
            due(x.act(0, LEAST), BAD);
            due(x.act(0, MOST), BAD);
            due(read(ROPE).act(0, 0), BAD);
            due(new SpunLoop().act(0, 0), BAD);
        });
        test(9, "Numbers go from 0 on.", () -> {
            SpunLoop x = read(ROPE + "close;".repeat(19) + "spin 7 0 0 0;");
            due(x.act(0, 0), NONE);
            due(x.act(19, 0), 7);
            due(x.act(20, 0), BAD);
        });
    }

    private static void takes() {
        String text = "rope 400 9 0;rope 400 0 0;rope 40 0 1;horse 0 0 3;horse 1 0 0;horse 2 0 0;beast 3 0 1 1 0;";
        test(10, "A ROPE and a HORSE are TAKEN (NONE: no HORSE)", () -> {
            SpunLoop x = read(text);
            due(x.take(2, 2), 1);
            due(x.need(20), 7);
            due(x.take(1, 1), 1);
            due(x.need(20), 5);
            due(x.take(0, 0), 1);
            due(x.need(20), 3);
            due(x.odds(0, 0, 1), 7);
            // Without a HORSE nothing shakes: SPIN 0 reaches nothing.
            due(x.take(0, NONE), 1);
            due(x.odds(0, 0, 0), 0);
            due(x.odds(0, 0, 1), 1);
        });
        test(10, "(NONE: no HORSE)", () -> {
            SpunLoop x = read(STIFF);
            due(x.take(0, NONE), 1);
            due(x.take(0, 0), BAD);
            due(x.take(NONE, NONE), BAD);
        });
        test(10, "THE LIVE LOOP is the first one: 1.", () -> {
            SpunLoop x = atTen("");
            due(x.take(0, NONE), 1);
            nowIs(x, 20, 0, 0, 0, 0, 0, NONE);
            // Also from one that has fallen.
            x = read(WET);
            x.tick(0, 0, 0, 0);
            due(x.take(0, NONE), 1);
            nowIs(x, 20, 0, 0, 0, 0, 0, NONE);
        });
        test(10, "BAD (a number is not as told; there is no such thing)", () -> {
            SpunLoop x = read(text);
            due(x.take(-1, 0), BAD);
            due(x.take(3, 0), BAD);
            due(x.take(LEAST, 0), BAD);
            due(x.take(MOST, 0), BAD);
            due(x.take(0, -1), BAD);
            due(x.take(0, 3), BAD);
            due(x.take(0, LEAST), BAD);
            due(x.take(0, MOST), BAD);
            due(x.take(0, NONE - 1), BAD);
            due(x.take(0, NONE + 1), BAD);
            due(new SpunLoop().take(0, NONE), BAD);
            due(new SpunLoop().take(0, 0), BAD);
        });
        test(10, "What is refused, or found, changes nothing but status().", () -> {
            refused(x -> x.take(2, 1), BAD);
            refused(x -> x.take(1, 2), BAD);
        });
    }
}
