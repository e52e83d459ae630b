/** Boundaries of promises 32 to 36: kinds of acts, asks, their trace, counts. */
final class AskedEdges extends Edges {
    private static final String ACTS = "rope 40 0 0;beast 7 0 1 1 0;beast 200 0 1 1 0;"
        + "close;spin 4 2 9 3;stand 5 2 8 3;flat 0;edge 1;close;";
    private static final int[] OUTSIDE = {-1, 6, LEAST, MOST, NONE};

    @Override
    void all() {
        kinds();
        takenAs();
        asks();
        asksThatAreRefused();
        traces();
        counts();
    }

    private static void kinds() {
        test(32, "It is told as the last that fits: by this it is asked.", () -> {
            SpunLoop x = read(ACTS);
            int[] told = {6, 2, 3, 4, 5, 6};
            for (int act = 0; act < told.length; act++) {
                due(x.kind(act), told[act]);
            }
        });
        test(32, "The KIND of an ACT, as it is told. BAD.", () -> {
            SpunLoop x = read(ACTS);
            for (int act : OUTSIDE) {
                due(x.kind(act), BAD);
            }
            due(read("rope 40 0 0;").kind(0), BAD);
            due(new SpunLoop().kind(0), BAD);
            x = read("rope 40 0 0;" + "close;".repeat(19) + "spin 1 0 0 0;");
            due(x.kind(19), 2);
            due(x.kind(20), BAD);
        });
    }

    private static void takenAs() {
        test(33, "KINDS of ACTS: 0 ACT; 1 LOOPED, an ACT: spin, stand; 2 SPUN, a LOOPED one: spin; "
            + "3 STANDING, a LOOPED one: stand; 4 THROWN, an ACT: flat; 5 EDGED, a THROWN one: edge; 6 CLOSING, an ACT: close.", () -> {
            SpunLoop x = read(ACTS);
            String[] fits = {"1000001", "1110000", "1101000", "1000100", "1000110", "1000001"};
            for (int act = 0; act < fits.length; act++) {
                for (int kind = 0; kind <= 6; kind++) {
                    due(x.as(act, kind), fits[act].charAt(kind) == '1' ? act : KIND);
                }
            }
        });
        test(33, "An ACT is taken as one of a KIND (0 .. 6): its number. BAD; KIND: it is no such one.", () -> {
            SpunLoop x = read(ACTS);
            int[] outside = {-1, 7, LEAST, MOST};
            for (int kind : outside) {
                due(x.as(0, kind), BAD);
            }
            for (int act : OUTSIDE) {
                due(x.as(act, 0), BAD);
                due(x.as(act, 7), BAD);
            }
            due(new SpunLoop().as(0, 0), BAD);
            due(x.as(5, 6), 5);
            due(x.as(5, 0), 5);
        });
        test(33, "3 KIND (an ACT that is not that)", () -> {
            SpunLoop x = read(ACTS);
            due(x.as(3, 5), KIND);
            due(x.status(), 3);
            due(x.as(4, 5), 4);
            due(x.status(), 0);
        });
        test(33, "What is refused, or found, changes nothing but status().", () -> {
            refused(x -> x.as(0, 7), BAD);
            refused(x -> x.as(5, 0), BAD);
            refused(x -> x.as(0, 6), KIND);
        });
    }

    private static void askIs(SpunLoop x, int act, int what, long answer, int... bodies) {
        due(x.ask(act, what), answer);
        for (int i = 0; i < bodies.length; i++) {
            due(x.trace(i), bodies[i]);
        }
        due(x.trace(bodies.length), NONE);
    }

    private static void asks() {
        test(34, "0 SIZE: 10 lent to all ACTS: 1.", () -> askIs(read(ACTS), 0, 0, 1, 10));
        test(34, "11 of LOOPED ones: what 10 gives, and TICKS.", () -> {
            askIs(read(ACTS), 1, 0, 5, 11, 10);
            askIs(read("rope 40 0 0;spin 40 0 0 0;"), 0, 0, 41, 11, 10);
        });
        test(34, "12 of STANDING ones: what 11 gives, twice.", () -> {
            askIs(read(ACTS), 2, 0, 12, 12, 11, 10);
            askIs(read("rope 40 0 0;stand 40 0 0 0;"), 0, 0, 82, 12, 11, 10);
        });
        test(34, "13 of THROWN ones: what 10 gives, and FAR of the BEAST.", () -> askIs(read(ACTS), 3, 0, 8, 13, 10));
        test(34, "14 of EDGED ones: what 13 gives, less MARK.", () -> {
            askIs(read(ACTS), 4, 0, 201 - 54, 14, 13, 10, 24, 20);
            // The last act, the nearest beast: less than 0.
            askIs(read("rope 40 0 0;beast 1 0 1 1 0;" + "close;".repeat(19) + "edge 0;"), 19, 0, 2 - 69, 14, 13, 10, 24, 20);
        });
        test(34, "1 MARK: 20 lent to all ACTS: its number.", () -> askIs(read(ACTS), 3, 1, 3, 20));
        test(34, "21 of LOOPED ones: what 20 gives, and LET.", () -> askIs(read(ACTS), 2, 1, 10, 21, 20));
        test(34, "22 of SPUN ones: what 21 gives, and SIZE.", () -> askIs(read(ACTS), 1, 1, 15, 22, 21, 20, 11, 10));
        test(34, "23 of CLOSING ones: 0 less what 20 gives.", () -> {
            askIs(read(ACTS), 0, 1, 0, 23, 20);
            askIs(read(ACTS), 5, 1, -5, 23, 20);
            askIs(read("rope 40 0 0;" + "close;".repeat(20)), 19, 1, -19, 23, 20);
        });
        test(34, "24 of EDGED ones: what 20 gives, and 50.", () -> askIs(read(ACTS), 4, 1, 54, 24, 20));
        test(34, "(Of an ask the BODY told for the KIND begins", () -> {
            SpunLoop x = read(ACTS);
            int[][] begun = {{10, 23}, {11, 22}, {12, 21}, {13, 20}, {14, 24}};
            for (int act = 0; act < begun.length; act++) {
                for (int what = 0; what <= 1; what++) {
                    x.ask(act, what);
                    due(x.trace(0), begun[act][what]);
                }
            }
        });
        test(34, "SIZE, MARK within others are asked of the same ACT anew.)", () -> {
            // By its KIND, from its own BODY on: 24 within 14, 11 within 22; and of that ACT, not of another.
            SpunLoop x = read("rope 40 0 0;beast 9 0 1 1 0;beast 30 0 1 1 0;spin 9 0 1 0;spin 7 0 2 0;edge 0;edge 1;");
            askIs(x, 0, 1, 0 + 1 + 10, 22, 21, 20, 11, 10);
            askIs(x, 1, 1, 1 + 2 + 8, 22, 21, 20, 11, 10);
            askIs(x, 2, 0, 1 + 9 - 52, 14, 13, 10, 24, 20);
            askIs(x, 3, 0, 1 + 30 - 53, 14, 13, 10, 24, 20);
        });
        test(34, "else that of the nearest KIND that it is, too, else the one that is lent", () -> {
            SpunLoop x = read(ACTS);
            // A stand has no MARK of its own, so that of LOOPED; a flat none, so the lent one; a close no SIZE.
            askIs(x, 2, 1, 10, 21, 20);
            askIs(x, 3, 1, 3, 20);
            askIs(x, 5, 0, 1, 10);
        });
    }

    private static void asksThatAreRefused() {
        test(34, "An ASK (0, 1) of an ACT. BAD.", () -> {
            SpunLoop x = read(ACTS);
            for (int act : OUTSIDE) {
                due(x.ask(act, 0), BAD);
                due(x.ask(act, 1), BAD);
            }
            int[] outside = {-1, 2, LEAST, MOST};
            for (int what : outside) {
                due(x.ask(0, what), BAD);
            }
            due(read("rope 40 0 0;").ask(0, 0), BAD);
            due(new SpunLoop().ask(0, 0), BAD);
        });
        test(34, "THE TRACE is empty ahead of it.", () -> {
            SpunLoop x = read(ACTS);
            x.ask(1, 1);
            x.ask(0, 0);
            due(x.trace(0), 10);
            due(x.trace(1), NONE);
        });
        test(34, "What is refused, or found, changes nothing but status().", () -> {
            refused(x -> x.ask(5, 0), BAD);
            refused(x -> x.ask(0, 2), BAD);
        });
    }

    private static void traces() {
        test(35, "Number i of THE TRACE; NONE.", () -> {
            SpunLoop x = read(ACTS);
            due(x.trace(0), NONE);
            x.ask(4, 0);
            due(x.trace(0), 14);
            due(x.trace(4), 20);
            int[] outside = {-1, 5, 15, 16, LEAST, MOST, NONE};
            for (int i : outside) {
                due(x.trace(i), NONE);
            }
            due(new SpunLoop().trace(0), NONE);
        });
        test(35, "each of which leaves its number in THE TRACE as it begins (the first 16)", () -> {
            // As it begins: ahead of those within it. No ask begins more than 5, so that none is beyond the 16.
            SpunLoop x = read(ACTS);
            for (int act = 0; act < 6; act++) {
                for (int what = 0; what <= 1; what++) {
                    x.ask(act, what);
                    due(x.trace(5), NONE);
                }
            }
            x.ask(2, 0);
            due(x.trace(0), 12);
            due(x.trace(1), 11);
            due(x.trace(2), 10);
        });
        test(35, "Number i of THE TRACE", () -> {
            // It stays behind all but an ask: a WAY that is read, what is taken, restored.
            SpunLoop x = read(ACTS);
            x.image(0);
            x.ask(3, 0);
            feed(x, "rope 40 0 0;");
            x.way();
            due(x.trace(0), 13);
            x.restore(0);
            x.take(0, NONE);
            x.kind(1);
            due(x.trace(0), 13);
            due(x.trace(1), 10);
            due(x.trace(2), NONE);
        });
    }

    private static void counts() {
        test(36, "How many: 0 ROWS, 1 ROPES, 2 HORSES, 3 BEASTS, 4 FORMS, 5 ACTS, 6 THROWS among them, "
            + "7 bytes on the tape, 8 IMAGES that are kept. BAD.", () -> {
            int[] outside = {-1, 9, LEAST, MOST};
            for (int what : outside) {
                due(full().count(what), BAD);
                due(new SpunLoop().count(what), BAD);
            }
            long[] counts = {2, 2, 2, 2, 2, 5, 2, 4, 1};
            for (int what = 0; what <= 8; what++) {
                due(full().count(what), counts[what]);
                due(new SpunLoop().count(what), 0);
            }
        });
        test(36, "0 ROWS", () -> {
            SpunLoop x = new SpunLoop();
            for (int row = 0; row <= 7; row++) {
                x.row(row, 0, 0);
                due(x.count(0), row + 1);
            }
            x.row(3, 1, 5);
            due(x.count(0), 8);
            x.drop(3);
            x.drop(3);
            due(x.count(0), 7);
        });
        test(36, "6 THROWS among them", () -> {
            due(read("rope 40 0 0;beast 1 0 1 1 0;" + "flat 0;edge 0;".repeat(10)).count(6), 20);
            due(read("rope 40 0 0;spin 1 0 0 0;stand 1 0 0 0;close;").count(6), 0);
        });
        test(36, "7 bytes on the tape", () -> {
            SpunLoop x = new SpunLoop();
            feed(x, " ".repeat(600));
            due(x.count(7), 600);
            x.feed(32, 1);
            due(x.count(7), 600);
            x.way();
            due(x.count(7), 0);
        });
        test(36, "8 IMAGES that are kept", () -> {
            SpunLoop x = read("rope 40 0 0;");
            due(x.count(8), 0);
            x.image(0);
            x.image(0);
            due(x.count(8), 1);
            x.image(1);
            due(x.count(8), 2);
            // Neither a new WAY nor what is restored takes one away.
            feed(x, "rope 40 0 0;");
            x.way();
            x.restore(0);
            due(x.count(8), 2);
        });
    }
}
