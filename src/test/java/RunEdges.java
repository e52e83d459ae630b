/** Boundaries of promises 21 to 24: runs of the way, their odds, what a rule counts, the best TICK. */
final class RunEdges extends Edges {
    /** SIZE 43, SPIN 10 behind it, from the first loop of the stiff rope. */
    private static final String SPUN = "spin 5 4 8 6;";
    /** A beast that is reached at any TICK but 0, by any SPIN, and never ducks. */
    private static final String AT_HAND = "horse 20 0 0;beast 1 0 1 1 0;";
    /** From the first loop one of five SPINS reaches it, and that by a half: 1 by 10. */
    private static final String TENTH = STIFF + "horse 0 0 2;beast 2 0 10 1 6;";

    @Override
    void all() {
        toldsThatAreRefused();
        runsThatFall();
        throwsOfRuns();
        allOdds();
        oddsThatAreTooFine();
        seconds();
        halves();
        bestThatAreRefused();
        bests();
    }

    // ---------------------------------------------------------------- promise 21

    private static void toldsThatAreRefused() {
        test(21, "Behind an ACT of a RUN (-1: ahead of all)", () -> {
            SpunLoop x = read(STIFF + SPUN + "close;");
            toldIs(x, -1, 20, 0, 0, 0, 0, 0, NONE, NONE);
            due(x.told(-2, 0), BAD);
            due(x.told(2, 0), BAD);
            due(x.told(LEAST, 0), BAD);
            due(x.told(MOST, 0), BAD);
            due(x.told(NONE, 0), BAD);
            toldIs(x, 1, 20, 0, 0, 15, 6, 0, NONE, NONE);
            // A way without ACTS has what is ahead of all.
            x = read(STIFF);
            toldIs(x, -1, 20, 0, 0, 0, 0, 0, NONE, NONE);
            due(x.told(0, 0), BAD);
        });
        test(21, "7 WHY of the latest TICK of that ACT (NONE). BAD; STATE: no WAY (ahead of BAD).", () -> {
            SpunLoop x = read(STIFF + "close;");
            due(x.told(0, -1), BAD);
            due(x.told(0, 8), BAD);
            due(x.told(-1, LEAST), BAD);
            due(x.told(-1, MOST), BAD);
            due(new SpunLoop().told(-1, 0), STATE);
            due(new SpunLoop().told(-2, 0), STATE);
            due(new SpunLoop().told(0, 8), STATE);
        });
        test(21, "A RUN of the WAY: all ACTS, by numbers, from the first LOOP", () -> {
            // THE LIVE LOOP is another one; the rope that is taken is that of the run.
            SpunLoop x = read("rope 400 9 0;rope 40 0 1;spin 1 2 0 0;close;spin 2 4 0 0;");
            spun(x, 8, 2, 4, 6);
            toldIs(x, 0, 5, 0, 0, 0, 1, 0, NONE, 2);
            toldIs(x, 2, 15, 4, 6, 6, 4, 0, NONE, 0);
            nowIs(x, 25, 6, 0, 12, 3, 0, 0);
            x.take(1, NONE);
            toldIs(x, 0, 0, 0, 0, 0, 1, 0, NONE, 3);
        });
    }

    private static void runsThatFall() {
        test(21, "so many TICKS", () -> {
            SpunLoop x = read(STIFF + "spin 1 4 0 2;stand 1 4 0 4;spin 40 2 0 4;");
            due(x.told(0, 4), 1);
            due(x.told(1, 4), 2);
            due(x.told(2, 4), 42);
            due(x.told(2, 3), 2 + 4 + 160);
        });
        test(21, "up to where it is KINKED or SHUT", () -> {
            // SHUT by the second TICK: no further TICK of that ACT, nor of the next, up to a close.
            SpunLoop x = read(STIFF + "spin 40 0 0 0;spin 3 4 0 0;stand 1 4 0 0;close;spin 1 4 0 0;");
            toldIs(x, 0, 0, 0, 0, 0, 2, 0, NONE, 3);
            toldIs(x, 1, 0, 0, 0, 0, 2, 0, NONE, NONE);
            toldIs(x, 2, 0, 0, 0, 0, 2, 0, NONE, NONE);
            toldIs(x, 3, 20, 0, 0, 0, 3, 0, NONE, NONE);
            toldIs(x, 4, 15, 2, 2, 2, 4, 0, NONE, 2);
        });
        test(21, "KINKED or SHUT)", () -> {
            // TWIST 2, 6, 12, 20, 30: the fifth TICK is the last.
            SpunLoop x = read(SOFT + "spin 40 4 0 0;spin 1 2 0 15;close;");
            toldIs(x, 0, 5, 10, 30, 30, 5, 1, NONE, 4);
            toldIs(x, 1, 5, 10, 30, 30, 5, 1, NONE, NONE);
            toldIs(x, 2, 20, 0, 0, 15, 6, 0, NONE, NONE);
        });
        test(21, "7 WHY of the latest TICK of that ACT (NONE)", () -> {
            SpunLoop x = read("rope 40 9 0;beast 1 0 1 1 0;spin 1 4 0 2;spin 1 4 8 4;spin 1 4 8 6;flat 0;close;");
            due(x.told(0, 7), 2);
            due(x.told(1, 7), 0);
            due(x.told(2, 7), 1);
            due(x.told(3, 7), NONE);
            due(x.told(4, 7), NONE);
        });
    }

    private static void throwsOfRuns() {
        test(21, "6 by how much that THROW MISSED (0: it did not; NONE: no THROW)", () -> {
            // t is 2: flat leaves 31 less WIDE.
            due(read(STIFF + "beast 20 0 31 1 12;" + SPUN + "flat 0;").told(1, 6), 0);
            due(read(STIFF + "beast 20 0 30 1 12;" + SPUN + "flat 0;").told(1, 6), 0);
            due(read(STIFF + "beast 1 0 1 1 0;" + SPUN + "edge 0;").told(1, 6), 0);
            due(read(STIFF + "beast 20 0 32 1 0;" + SPUN + "flat 0;").told(1, 6), 1);
            due(read(STIFF + "beast 20 0 71 1 0;" + SPUN + "edge 0;").told(1, 6), 0);
            due(read(STIFF + "beast 20 0 72 1 0;" + SPUN + "edge 0;").told(1, 6), 1);
            due(read(STIFF + "beast 1 0 1 1 0;flat 0;").told(0, 6), 500);
            due(read(WET + "beast 1 0 1 1 0;spin 1 0 0 0;flat 0;").told(1, 6), 999);
            due(read(STIFF + "beast 1 0 1 1 0;" + SPUN + "flat 0;").told(0, 6), NONE);
            due(read(STIFF + "beast 1 0 1 1 0;flat 0;close;").told(1, 6), NONE);
        });
        test(21, "Behind a THROW it is as behind a CLOSE, but TIRED stays.", () -> {
            SpunLoop x = read(STIFF + "beast 20 0 31 1 0;" + SPUN + "flat 0;close;edge 0;");
            toldIs(x, 1, 20, 0, 0, 30, 6, 0, 0, NONE);
            toldIs(x, 2, 20, 0, 0, 15, 7, 0, NONE, NONE);
            toldIs(x, 3, 20, 0, 0, 15, 8, 0, 500, NONE);
        });
        test(21, "from the first LOOP (spin, stand: so many TICKS", () -> {
            // THE TICK of a run brings the horse nearer, that of THE LIVE LOOP does not.
            SpunLoop x = read(STIFF + "horse 4 0 0;beast 40 0 31 1 0;" + SPUN + "flat 0;");
            due(x.told(1, 6), 0);
            x.close();
            x.close();
            due(x.told(1, 6), 0);
            due(read(STIFF + "horse 4 0 0;beast 41 0 31 1 0;" + SPUN + "flat 0;").told(1, 6), 6);
        });
    }

    // ---------------------------------------------------------------- promise 22

    private static void allAre(SpunLoop x, long above, long below) {
        due(x.all(0), above);
        due(x.all(1), below);
    }

    private static void allOdds() {
        test(22, "1 by 1 without THROWS; NONE. BAD; STATE: no WAY.", () -> {
            allAre(read(STIFF), 1, 1);
            allAre(read(STIFF + SPUN + "close;stand 1 0 0 0;"), 1, 1);
            SpunLoop x = read(STIFF);
            int[] outside = {-1, 2, LEAST, MOST};
            for (int what : outside) {
                due(x.all(what), BAD);
                due(new SpunLoop().all(what), BAD);
            }
            due(new SpunLoop().all(0), STATE);
            due(new SpunLoop().all(1), STATE);
        });
        test(22, "ALL ODDS: those of all THROWS of a RUN, multiplied one by one, in lowest terms each time", () -> {
            // 2 by 3, nineteen times over; 12 to the 19th would be far beyond what a long holds.
            String close = STIFF + "horse 20 0 0;beast 1 0 1 1 4;close;";
            allAre(read(close + "flat 0;"), 2, 3);
            allAre(read(close + "flat 0;".repeat(2)), 4, 9);
            allAre(read(close + "flat 0;".repeat(19)), 524288L, 1162261467L);
            allAre(read(close + "edge 0;".repeat(19)), 1, 1);
        });
        test(22, "in lowest terms each time", () -> {
            // 3 by 4 and 2 by 3 are 1 by 2, then 1 by 3.
            SpunLoop x = read(STIFF + "horse 20 0 0;beast 1 0 1 1 3;beast 1 0 1 1 4;close;flat 0;flat 1;flat 1;");
            allAre(x, 1, 3);
        });
        test(22, "(0 is 0 by 1)", () -> {
            allAre(read(STIFF + "beast 99 0 1 1 0;flat 0;"), 0, 1);
            allAre(read(STIFF + "horse 20 0 0;beast 1 0 1 1 4;beast 1 0 1 1 12;close;flat 0;flat 1;flat 0;"), 0, 1);
        });
    }

    private static void oddsThatAreTooFine() {
        test(22, "NONE: a lower number above 1000000000000.", () -> {
            allAre(read(TENTH + "flat 0;"), 1, 10);
            allAre(read(TENTH + "flat 0;".repeat(11)), 1, 100000000000L);
            allAre(read(TENTH + "flat 0;".repeat(12)), 1, 1000000000000L);
            allAre(read(TENTH + "flat 0;".repeat(13)), NONE, NONE);
            allAre(read(TENTH + "flat 0;".repeat(20)), NONE, NONE);
        });
        test(22, "a lower number above 1000000000000", () -> {
            // 0 by 1 from the first THROW on is never too fine.
            allAre(read(STIFF + "horse 0 0 2;beast 2 0 10 1 6;beast 200 0 1 1 0;flat 1;" + "flat 0;".repeat(13)), 0, 1);
            // Nor is the next way, behind one that was.
            SpunLoop x = read(TENTH + "flat 0;".repeat(13));
            allAre(x, NONE, NONE);
            feed(x, TENTH + "flat 0;flat 0;");
            x.way();
            allAre(x, 1, 100);
            // What was too fine once stays so: one by one, nothing brings it back.
            allAre(read(STIFF + "horse 0 0 2;beast 2 0 10 1 6;beast 200 0 1 1 0;" + "flat 0;".repeat(13) + "flat 1;"),
                NONE, NONE);
        });
    }

    // ---------------------------------------------------------------- promise 23

    private static void seconds() {
        test(23, "of THROWS at a TICK (ahead of it) up to SECONDS.", () -> {
            // The THROWS are at 1, 2, 3, .. and each is sure.
            String text = "close;" + "flat 0;".repeat(3);
            due(read(STIFF + AT_HAND + "rule 1 5 7 2;" + text).score(), 5);
            due(read(STIFF + AT_HAND + "rule 2 5 7 2;" + text).score(), 10);
            due(read(STIFF + AT_HAND + "rule 3 5 7 2;" + text).score(), 15);
            due(read(STIFF + AT_HAND + "rule 4 5 7 2;" + text).score(), 15);
            due(read(STIFF + AT_HAND + "rule 1 5 7 2;close;close;flat 0;").score(), 0);
        });
        test(23, "less MISS for each other one", () -> {
            // None is reached; behind SECONDS a miss counts as little as a catch.
            String far = STIFF + "beast 200 0 1 1 0;";
            due(read(far + "rule 200 5 7 2;flat 0;").score(), -2);
            due(read(far + "rule 200 5 7 2;flat 0;edge 0;flat 0;").score(), -6);
            due(read(far + "rule 1 5 7 2;flat 0;edge 0;flat 0;").score(), -4);
            due(read(far + "rule 200 5 7 99;" + "edge 0;".repeat(20)).score(), -1980);
        });
        test(23, "SCORE. STATE: no WAY.", () -> {
            due(new SpunLoop().score(), STATE);
            due(read(STIFF).score(), 0);
            due(read(STIFF + SPUN).score(), 0);
        });
        test(23, "SHUT, KINKED", () -> {
            // A sure one, then one from a loop that is SHUT, then a sure one.
            String text = AT_HAND + "rule 99 5 7 2;close;flat 0;spin 9 0 0 0;flat 0;flat 0;";
            due(read(STIFF + text).score(), 5 - 2 + 5);
            due(read(STIFF + text).all(0), 0);
            due(read(STIFF + text).all(1), 1);
        });
        test(23, "SCORE: HEAD (flat), FEET (edge) for each THROW", () -> {
            due(read(STIFF + AT_HAND + "rule 99 5 7 2;close;flat 0;").score(), 5);
            due(read(STIFF + AT_HAND + "rule 99 5 7 2;close;edge 0;").score(), 7);
            due(read(STIFF + AT_HAND + "rule 99 99 0 0;close;" + "flat 0;".repeat(19)).score(), 1881);
            due(read(STIFF + AT_HAND + "rule 99 0 99 0;close;" + "edge 0;flat 0;".repeat(9)).score(), 891);
        });
    }

    private static void halves() {
        test(23, "for each THROW of odds of a half or more", () -> {
            String close = "rule 99 5 7 2;close;";
            due(read(STIFF + "horse 20 0 0;beast 1 0 1 1 6;" + close + "flat 0;").score(), 5);
            due(read(STIFF + "horse 20 0 0;beast 1 0 1 1 7;" + close + "flat 0;").score(), -2);
            // GAIT 2, t 1: 4 by 12.
            due(read(STIFF + "horse 20 0 0;beast 1 0 1 2 0;" + close + "edge 0;").score(), -2);
            // By a SHAKE of 3 from SPIN 0 three of seven reach it, just less than a half.
            due(read(STIFF + "horse 0 0 3;beast 1 0 1 1 0;rule 99 5 7 2;flat 0;").score(), -2);
            // Four of seven are more than a half: SPIN 1, so that 1, 2, 3, 4 reach it.
            due(read(STIFF + "horse 0 0 3;beast 1 0 1 1 0;rule 99 5 7 2;spin 1 3 0 0;flat 0;").score(), 5);
        });
    }

    // ---------------------------------------------------------------- promise 24

    private static void bestIs(String text, long at, long above, long below) {
        SpunLoop x = read(text);
        due(x.best(0, 0), at);
        due(x.best(0, 1), above);
        due(x.best(0, 2), below);
    }

    private static void bestThatAreRefused() {
        test(24, "BEST for a BEAST (what = 0; NONE), its ODDS: above (1), below (2); 0 by 1, where there is none. BAD.", () -> {
            SpunLoop x = read(STIFF + "beast 20 2 10 3 4;beast 20 2 10 3 4;");
            int[] outside = {-1, 2, LEAST, MOST, NONE};
            for (int beast : outside) {
                due(x.best(beast, 0), BAD);
            }
            int[] others = {-1, 3, LEAST, MOST};
            for (int what : others) {
                due(x.best(0, what), BAD);
            }
            due(x.best(1, 0), NONE);
            due(read(STIFF).best(0, 0), BAD);
            due(new SpunLoop().best(0, 0), BAD);
        });
        test(24, "(what = 0; NONE), its ODDS: above (1), below (2); 0 by 1, where there is none.", () -> {
            bestIs(STIFF + "beast 20 2 10 3 4;", NONE, 0, 1);
            bestIs(STIFF + "beast 200 15 10 3 4;" + SPUN, NONE, 0, 1);
            bestIs(STIFF + "horse 0 0 3;beast 200 15 10 3 4;" + SPUN, NONE, 0, 1);
        });
    }

    private static void bests() {
        String head = STIFF + "beast 20 2 10 3 4;";
        test(24, "(0: ahead of all)", () -> {
            bestIs(STIFF + "horse 0 0 1;beast 1 0 1 1 0;", 0, 1, 3);
            bestIs(STIFF + "horse 0 0 1;beast 1 0 1 1 12;", 1, 1, 3);
            bestIs(STIFF + "horse 0 0 1;beast 1 0 1 1 0;close;" + SPUN, 0, 1, 3);
        });
        test(24, "of all TICKS of the spins and stands ahead of the first other ACT of a RUN", () -> {
            // TICK 5, the last one, is the best; by a stand as well as by a spin; not behind a close or throw.
            bestIs(head + "spin 5 4 8 6;", 11, 1, 1);
            bestIs(head + "spin 4 4 8 6;stand 1 4 8 6;", 11, 1, 1);
            bestIs(head + "spin 4 4 8 6;spin 1 4 8 6;close;", 11, 1, 1);
            bestIs(head + "spin 4 4 8 6;close;spin 5 4 8 6;", 7, 1, 3);
            bestIs(head + "flat 0;spin 5 4 8 6;", NONE, 0, 1);
            bestIs(head + "edge 0;spin 5 4 8 6;", NONE, 0, 1);
            bestIs(head + "close;spin 5 4 8 6;", NONE, 0, 1);
        });
        test(24, "that of the greatest ODDS (above 0), of several the earliest", () -> {
            // TICKS 3 and 4 have 1 by 3 each, TICK 5 has 1 by 1, and so have those behind it.
            bestIs(head + "spin 3 4 8 6;", 7, 1, 3);
            bestIs(head + "spin 4 4 8 6;", 7, 1, 3);
            bestIs(head + "spin 5 4 8 6;spin 9 2 0 10;", 11, 1, 1);
        });
        test(24, "flat ahead of edge: 2 times the TICK, and 1 for edge", () -> {
            // Both are 1 by 1 at TICK 5; then flat is a little less.
            bestIs(STIFF + "beast 20 2 10 3 0;spin 5 4 8 6;", 10, 1, 1);
            bestIs(STIFF + "beast 20 2 10 3 1;spin 5 4 8 6;", 11, 1, 1);
        });
        test(24, "a THROW could be let go", () -> {
            // Only at TICK 5 the loop is wide enough, 35 where 25 are needed; but there it is KINKED, or not.
            bestIs(SOFT + "beast 1 0 42 1 0;spin 40 4 9 0;", NONE, 0, 1);
            bestIs(SOFT + "beast 1 0 42 1 0;spin 5 4 9 4;", 11, 1, 1);
            // SHUT at TICK 2, the best ahead of that: SIZE 5 is enough for edge at TICK 1, where nothing is between.
            bestIs(STIFF + AT_HAND + "spin 40 0 0 0;", 3, 1, 1);
        });
        test(24, "NONE: there is none.", () -> {
            // DUCK 12 and an edge that is too wide.
            bestIs(STIFF + "horse 20 0 0;beast 1 0 50 1 12;spin 1 3 0 0;", NONE, 0, 1);
        });
    }
}
