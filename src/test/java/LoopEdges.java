/** Boundaries of promises 11 to 20: TICKS, THROWS, CLOSE, what the loop is, what it needs. */
final class LoopEdges extends Edges {
    @Override
    void all() {
        ticksThatAreRefused();
        spins();
        tiredArms();
        opens();
        sizes();
        twists();
        whys();
        throwsThatAreRefused();
        distances();
        flights();
        lefts();
        behindThrows();
        closes();
        nows();
        pieces();
        odds();
        shakes();
        needs();
        greatest();
        outs();
        wraps();
    }

    /** SIZE 15, SPIN 4, TWIST 0, TIRED 6, THE TICK 2. */
    private static SpunLoop atFour() {
        return spun(read(STIFF), 0, 2, 4);
    }

    // ---------------------------------------------------------------- promise 11

    private static void ticksThatAreRefused() {
        test(11, "A TICK by a MANNER (0 spin, 1 stand), UP, LET, TURN", () -> {
            SpunLoop x = atFour();
            due(x.tick(-1, 2, 0, 4), BAD);
            due(x.tick(2, 2, 0, 4), BAD);
            due(x.tick(LEAST, 2, 0, 4), BAD);
            due(x.tick(MOST, 2, 0, 4), BAD);
            // SPIN 3 is enough for spin, and 1 less than enough for stand.
            due(x.tick(0, 1, 0, 3), 0);
            due(x.tick(1, 2, 0, 3), 2);
        });
        test(11, "A TICK by a MANNER, UP, LET, TURN: WHY. BAD; STATE: no WAY, KINKED, SHUT.", () -> {
            SpunLoop x = atFour();
            int[] outside = {-1, 5, LEAST, MOST};
            for (int up : outside) {
                due(x.tick(0, up, 0, 4), BAD);
            }
            due(x.now(4), 2);
        });
        test(11, "LET, TURN: WHY. BAD", () -> {
            SpunLoop x = atFour();
            int[] outside = {-1, 10, LEAST, MOST};
            for (int let : outside) {
                due(x.tick(0, 2, let, 4), BAD);
            }
            due(x.tick(0, 2, 0, 4), 0);
            due(x.tick(0, 2, 9, 4), 0);
            due(x.now(0), 19);
        });
        test(11, "TURN: WHY. BAD", () -> {
            SpunLoop x = atFour();
            int[] outside = {-1, 16, LEAST, MOST};
            for (int turn : outside) {
                due(x.tick(0, 2, 0, turn), BAD);
            }
            due(x.tick(0, 2, 0, 0), 0);
            due(x.now(2), 4);
            due(x.tick(0, 2, 0, 15), 0);
            due(x.now(2), 4 - 11);
        });
        test(11, "STATE: no WAY", () -> {
            due(new SpunLoop().tick(0, 2, 0, 0), STATE);
            due(new SpunLoop().tick(0, 5, 0, 0), BAD);
        });
        test(11, "of a LOOP that is neither KINKED nor SHUT", () -> {
            SpunLoop x = read(WET);
            due(x.tick(0, 2, 0, 0), 3);
            due(x.tick(0, 4, 0, 0), STATE);
            due(x.tick(1, 4, 0, 0), STATE);
            due(x.tick(0, 4, 10, 0), BAD);
            due(x.now(4), 1);
            x = kinked();
            due(x.tick(0, 2, 0, 15), STATE);
            due(x.tick(0, -1, 0, 15), BAD);
            nowIs(x, 5, 8, 25, 28, 5, 1, 4);
        });
        test(11, "What is refused, or found, changes nothing but status().", () -> {
            refused(x -> x.tick(2, 2, 0, 9), BAD);
            refused(x -> x.tick(0, 5, 0, 9), BAD);
            refused(x -> x.tick(0, 2, 10, 9), BAD);
            refused(x -> x.tick(0, 2, 0, 16), BAD);
        });
    }

    /** KINKED by a TWIST of 25, one above the LIMIT; SIZE 5, SPIN 8. */
    private static SpunLoop kinked() {
        SpunLoop x = read(SOFT);
        for (int k = 0; k < 4; k++) {
            x.tick(0, 4, 0, 0);
        }
        x.tick(0, 2, 0, 3);
        return x;
    }

    private static void spins() {
        test(11, "THE TICK is one more", () -> {
            SpunLoop x = read(STIFF);
            due(x.now(4), 0);
            x.tick(0, 4, 0, 2);
            due(x.now(4), 1);
            x.tick(1, 4, 0, 2);
            due(x.now(4), 2);
        });
        test(11, "SPIN becomes by UP less 2 more (UP 2: none)", () -> {
            for (int up = 0; up <= 4; up++) {
                SpunLoop x = atFour();
                x.tick(0, up, 0, 4);
                due(x.now(1), 4 + up - 2);
            }
        });
        test(11, "0 at least, TOP at most", () -> {
            SpunLoop x = read(STIFF);
            x.tick(0, 0, 0, 0);
            due(x.now(1), 0);
            x = read(STIFF);
            x.tick(0, 1, 0, 0);
            due(x.now(1), 0);
            x = spun(read(STIFF), 0, 1);
            x.tick(0, 0, 0, 0);
            due(x.now(1), 0);
            due(x.now(3), 1);
            x = spun(read(STIFF), 0, 2);
            x.tick(0, 0, 0, 0);
            due(x.now(1), 0);
        });
        test(11, "TIRED becomes by SPIN more.", () -> {
            SpunLoop x = read(STIFF);
            x.tick(0, 3, 0, 0);
            due(x.now(3), 1);
            x.tick(1, 4, 0, 0);
            due(x.now(3), 4);
            x.tick(0, 0, 0, 0);
            due(x.now(3), 5);
        });
    }

    private static void tiredArms() {
        test(11, "TOP at most: 15 less TIRED by 64", () -> {
            // TIRED is 63.
            SpunLoop x = spun(read(STIFF), 0, 1, 3, 5, 7, 9, 11, 13, 14);
            due(x.now(3), 63);
            x.tick(0, 4, 0, 15);
            due(x.now(1), 15);
            // TIRED is 64: no more than 14, though the hand leaves it as it is.
            x = spun(read(STIFF), 0, 1, 3, 5, 7, 9, 11, 13, 15);
            due(x.now(3), 64);
            x.tick(0, 2, 0, 15);
            due(x.now(1), 14);
            due(x.now(3), 78);
        });
        test(11, "15 less TIRED by 64", () -> {
            // TIRED is 127, then 128.
            SpunLoop x = spun(read(STIFF), 0, 1, 3, 5, 7, 9, 11, 13, 15, 14, 13, 12, 12, 12);
            due(x.now(3), 127);
            x.tick(0, 4, 0, 15);
            due(x.now(1), 14);
            x = spun(read(STIFF), 0, 1, 3, 5, 7, 9, 11, 13, 15, 14, 13, 12, 12, 13);
            due(x.now(3), 128);
            x.tick(0, 3, 0, 15);
            due(x.now(1), 13);
        });
        test(11, "15 less TIRED by 64, 1 at least.", () -> {
            SpunLoop x = read(STIFF + "beast 99 0 1 1 0;");
            int spin = 0;
            int tired = 0;
            for (int k = 0; k < 400 && tired < 1024 + 3; k++) {
                spin = Math.min(spin + 2, Math.max(1, 15 - tired / 64));
                tired += spin;
                // The smallest loop needs 2, so that an arm that turns by 1 shuts it.
                if (x.tick(0, 4, 0, spin) == 3) {
                    due(x.now(1), 1);
                    x.hurl(0, 0);
                    spin = 0;
                }
            }
            due(x.now(3), tired);
            due(tired, 1024 + 3);
            x.tick(0, 4, 0, 1);
            due(x.now(1), 1);
        });
    }

    private static void opens() {
        test(11, "It OPENS, if SPIN is NEED or more", () -> {
            // A SIZE of 15 needs 2.
            SpunLoop x = spun(read(STIFF), 0, 2);
            due(x.now(6), 2);
            due(x.tick(0, 2, 8, 2), 0);
            due(x.now(0), 17);
            x = spun(read(STIFF), 0, 2);
            due(x.tick(0, 1, 8, 1), 2);
            due(x.now(0), 10);
        });
        test(11, "4, and SIZE by 20", () -> {
            // 19 needs 2, 20 needs 3.
            SpunLoop x = spun(atFour(), 8, 4);
            due(x.now(0), 19);
            due(x.tick(0, 0, 0, 2), 0);
            x = spun(spun(atFour(), 8, 5), 0, 3);
            due(x.now(0), 20);
            due(x.now(6), 0);
            due(x.tick(0, 1, 0, 2), 2);
            due(x.now(0), 15);
        });
        test(11, "(stand: NEED and 2)", () -> {
            SpunLoop x = atFour();
            due(x.tick(1, 2, 8, 4), 0);
            due(x.now(0), 19);
            x = atFour();
            due(x.tick(1, 1, 8, 3), 2);
            due(x.now(0), 12);
        });
    }

    private static void sizes() {
        test(11, "If it OPENS, SIZE becomes by LET times SPIN by 8 more", () -> {
            int[][] cases = {{1, 7, 0}, {1, 8, 1}, {9, 7, 7}, {9, 8, 9}, {3, 5, 1}, {0, 8, 0}, {8, 7, 7}};
            for (int[] c : cases) {
                SpunLoop x = spun(atFour(), 0, 6, 6, c[1]);
                due(x.tick(0, 2, c[0], c[1]), 0);
                due(x.now(0), 15 + c[2]);
                x = spun(atFour(), 0, 6, 6, c[1]);
                due(x.tick(1, 2, c[0], c[1]), 0);
                due(x.now(0), 15 + c[2]);
            }
        });
        test(11, "ROOM of a ROPE: half its LENGTH.", () -> {
            int[][] cases = {{42, 21}, {43, 21}, {44, 22}, {40, 20}, {41, 20}};
            for (int[] c : cases) {
                SpunLoop x = spun(read("rope " + c[0] + " 8 0;"), 9, 2, 4, 6, 8);
                due(x.now(0), c[1]);
                due(x.now(6), 1);
            }
        });
        test(11, "SIZE becomes by LET times SPIN by 8 more, ROOM at most", () -> {
            // ROOM 21: from 19 by 1 it is not reached, by 2 it is, by 3 it would be passed.
            int[][] cases = {{2, 20, 0}, {3, 21, 1}, {4, 21, 1}, {9, 21, 1}};
            for (int[] c : cases) {
                SpunLoop x = spun(read("rope 43 8 0;"), 8, 2, 4);
                due(x.tick(0, 4, c[0], 6), c[2]);
                due(x.now(0), c[1]);
            }
        });
        test(11, "else by 5 times (stand: 3 times) what SPIN lacks of that less", () -> {
            for (int up = 2; up <= 4; up++) {
                SpunLoop x = read(STIFF);
                due(x.tick(0, up, 9, 0), 2);
                due(x.now(0), 20 - 5 * (3 - (up - 2)));
                x = read(STIFF);
                due(x.tick(1, up, 9, 0), 2);
                due(x.now(0), 20 - 3 * (5 - (up - 2)));
            }
        });
        test(11, "what SPIN lacks of that less, 0 at least.", () -> {
            // It lacks 4, which is all of 20; 7, which is more; 9 for stand.
            SpunLoop x = read(SOFT);
            due(x.tick(0, 3, 0, 0), 3);
            due(x.now(0), 0);
            x = read(WET);
            due(x.tick(0, 2, 0, 0), 3);
            due(x.now(0), 0);
            x = read(WET);
            due(x.tick(1, 2, 0, 0), 3);
            due(x.now(0), 0);
        });
        test(11, "SHUT, if SIZE is 0.", () -> {
            // 11, then 1, which is not shut, then 0.
            SpunLoop x = read(STIFF);
            due(x.tick(1, 4, 0, 2), 2);
            due(x.now(0), 11);
            due(x.tick(0, 0, 0, 0), 2);
            due(x.now(0), 1);
            due(x.tick(0, 2, 0, 0), 3);
            due(x.now(0), 0);
            due(x.tick(0, 4, 9, 0), STATE);
        });
    }

    private static void twists() {
        test(11, "TWIST becomes by SPIN less TURN more (stand: by that by 2).", () -> {
            int[][] cases = {{0, 2, 1}, {1, 1, 0}, {2, 0, 0}, {3, -1, 0}, {4, -2, -1}, {5, -3, -1}, {15, -13, -6}};
            for (int[] c : cases) {
                SpunLoop x = read(STIFF);
                x.tick(0, 4, 0, c[0]);
                due(x.now(2), c[1]);
                x = read(STIFF);
                x.tick(1, 4, 0, c[0]);
                due(x.now(2), c[2]);
            }
        });
        test(11, "All that is divided is cut towards 0", () -> {
            // Also what is below 0: 2 less 3, by 2, is 0, not -1; and so it is however often.
            SpunLoop x = read(STIFF);
            x.tick(1, 4, 0, 3);
            due(x.now(2), 0);
            x.tick(1, 2, 0, 3);
            due(x.now(2), 0);
            x.tick(1, 2, 0, 5);
            due(x.now(2), -1);
            x.tick(1, 2, 0, 1);
            due(x.now(2), -1);
        });
        test(11, "If TWIST is above LIMIT, or below 0 less LIMIT, it is KINKED.", () -> {
            SpunLoop x = read(SOFT);
            for (int k = 0; k < 4; k++) {
                due(x.tick(0, 4, 0, 0), k == 0 ? 2 : 0);
            }
            due(x.tick(0, 2, 0, 4), 0);
            nowIs(x, 5, 8, 24, 28, 5, 0, 0);
            due(x.tick(0, 2, 0, 7), 4);
            nowIs(x, 5, 8, 25, 36, 6, 1, 4);
            nowIs(kinked(), 5, 8, 25, 28, 5, 1, 4);
        });
        test(11, "below 0 less LIMIT, it is KINKED", () -> {
            SpunLoop x = read(SOFT);
            x.tick(0, 4, 0, 15);
            due(x.tick(0, 4, 0, 15), 0);
            nowIs(x, 5, 4, -24, 6, 2, 0, 0);
            due(x.tick(0, 2, 0, 5), 4);
            nowIs(x, 5, 4, -25, 10, 3, 1, 4);
        });
        test(11, "LIMIT: 24, and 4 times STIFF.", () -> {
            // 60, by the stiffest rope: -60 is not beyond it, -61 is; 60 and 61 likewise.
            SpunLoop x = atFour();
            for (int k = 0; k < 5; k++) {
                due(x.tick(0, 2, 0, 15), 0);
            }
            due(x.tick(0, 2, 0, 9), 0);
            due(x.now(2), -60);
            due(x.tick(0, 2, 0, 5), 4);
            x = spun(read(STIFF), 0, 2, 4, 6, 8, 10);
            for (int k = 0; k < 6; k++) {
                due(x.tick(0, 2, 0, 0), 0);
            }
            due(x.now(2), 60);
            due(x.tick(0, 2, 0, 9), 4);
            // 28 by STIFF 1.
            x = spun(read("rope 400 1 0;"), 0, 2, 4, 6, 8, 10);
            due(x.tick(0, 2, 0, 0), 0);
            due(x.tick(0, 2, 0, 0), 0);
            due(x.tick(0, 2, 0, 2), 0);
            due(x.now(2), 28);
            due(x.tick(0, 2, 0, 9), 4);
        });
        test(11, "it is KINKED", () -> {
            // By stand, too: 6 by 2 is 3 more each time, then 1 by 2, which is none, then 2 by 2.
            SpunLoop x = spun(read(SOFT), 0, 2, 4, 6);
            for (int k = 0; k < 8; k++) {
                due(x.tick(1, 2, 0, 0), 0);
            }
            due(x.now(2), 24);
            due(x.tick(1, 2, 0, 5), 0);
            due(x.now(2), 24);
            due(x.tick(1, 2, 0, 4), 4);
            due(x.now(5), 1);
        });
    }

    private static void whys() {
        test(11, "WHY of a TICK: 4 it is KINKED", () -> {
            // KINKED and SHUT at once.
            SpunLoop x = read(SOFT);
            due(x.tick(0, 4, 0, 15), 2);
            due(x.tick(0, 3, 0, 15), 4);
            nowIs(x, 0, 3, -25, 5, 2, 1, 4);
            // KINKED where SPIN lacks.
            x = read(SOFT);
            x.tick(0, 4, 9, 2);
            x.tick(0, 4, 9, 4);
            x.tick(0, 4, 9, 7);
            due(x.tick(0, 0, 0, 15), 0);
            due(x.tick(0, 0, 0, 15), 4);
            nowIs(x, 5, 2, -25, 18, 5, 1, 4);
            // KINKED where SIZE is ROOM.
            x = read("rope 40 0 0;");
            for (int k = 0; k < 4; k++) {
                x.tick(0, 4, 9, 0);
            }
            due(x.tick(0, 2, 9, 3), 4);
            nowIs(x, 20, 8, 25, 28, 5, 1, 4);
        });
        test(11, "else 3 it is SHUT", () -> {
            SpunLoop x = read(WET);
            due(x.tick(0, 4, 9, 0), 3);
            due(x.now(6), 3);
        });
        test(11, "else 2 SPIN lacks (it does not OPEN)", () -> {
            SpunLoop x = read(STIFF);
            due(x.tick(0, 4, 9, 0), 2);
            due(x.now(0), 15);
        });
        test(11, "else 1 SIZE is ROOM then, else 0.", () -> {
            // Also where nothing was let, and where ROOM was reached before.
            SpunLoop x = spun(read("rope 40 9 0;"), 9, 2, 4, 6);
            due(x.now(6), 1);
            due(x.tick(0, 2, 0, 6), 1);
            due(x.tick(0, 2, 9, 6), 1);
            due(x.tick(1, 2, 0, 6), 1);
            x = spun(read("rope 40 9 0;"), 8, 2, 4);
            due(x.now(0), 19);
            due(x.now(6), 0);
        });
    }

    // ---------------------------------------------------------------- promise 12

    private static void throwsThatAreRefused() {
        test(12, "A THROW (0, 1) at a BEAST", () -> {
            SpunLoop x = atTen("beast 20 2 10 3 4;");
            int[] outside = {-1, 2, LEAST, MOST};
            for (int how : outside) {
                due(x.hurl(how, 0), BAD);
            }
            due(x.now(4), 5);
        });
        test(12, "by how much it MISSES, or 0 less LEFT less 1. BAD.", () -> {
            SpunLoop x = atTen("beast 20 2 10 3 4;beast 20 2 12 3 4;");
            int[] outside = {-1, 2, LEAST, MOST, NONE};
            for (int beast : outside) {
                due(x.hurl(0, beast), BAD);
            }
            due(x.now(4), 5);
            due(x.hurl(0, 1), -(43 - 18 - 12) - 1);
            due(atTen("").hurl(0, 0), BAD);
            due(new SpunLoop().hurl(0, 0), BAD);
        });
        test(12, "SHUT, KINKED: it MISSES by 999.", () -> {
            // The nearest and smallest beast, which a loop that is open would catch.
            SpunLoop x = read(WET + "horse 20 0 0;beast 1 0 1 1 0;");
            x.tick(0, 2, 0, 0);
            due(x.hurl(0, 0), 999);
            due(x.hurl(0, 0), -(20 - 6 - 1) - 1);
            x = atTen("horse 20 0 0;beast 1 0 1 1 0;");
            for (int k = 0; k < 7; k++) {
                x.tick(0, 2, 0, 0);
            }
            due(x.now(5), 1);
            due(x.hurl(1, 0), 999);
            due(x.hurl(1, 0), -(20 - 4 - 0) - 1);
        });
        test(12, "What is refused, or found, changes nothing but status().", () -> {
            refused(x -> x.hurl(2, 0), BAD);
            refused(x -> x.hurl(0, 2), BAD);
            refused(x -> x.hurl(0, -1), BAD);
        });
    }

    /** What a flat THROW leaves of 43 behind t and a WIDE of 1, as hurl tells it; below 0: what it lacks. */
    private static long flatBehind(int t) {
        int left = 43 - 6 * t - 1;
        return left < 0 ? -left : -left - 1;
    }

    private static void distances() {
        test(12, "D: FAR less LAG times THE TICK", () -> {
            // SPIN 10: t is 2 up to a D of 20; THE TICK is 5, ahead of the THROW.
            due(atTen("horse 3 0 0;beast 35 0 1 1 0;").hurl(0, 0), flatBehind(2));
            due(atTen("horse 3 0 0;beast 36 0 1 1 0;").hurl(0, 0), flatBehind(3));
            due(atTen("horse 20 0 0;beast 120 0 1 1 0;").hurl(0, 0), flatBehind(2));
            due(atTen("horse 20 0 0;beast 121 0 1 1 0;").hurl(0, 0), flatBehind(3));
            due(atTen("horse 0 0 0;beast 20 0 1 1 0;").hurl(0, 0), flatBehind(2));
            due(atTen("horse 0 0 0;beast 21 0 1 1 0;").hurl(0, 0), flatBehind(3));
        });
        test(12, "but no less than NEAR", () -> {
            due(atTen("horse 20 20 0;beast 60 0 1 1 0;").hurl(0, 0), flatBehind(2));
            due(atTen("horse 20 21 0;beast 60 0 1 1 0;").hurl(0, 0), flatBehind(3));
            // As near as NEAR without it.
            due(atTen("horse 8 20 0;beast 60 0 1 1 0;").hurl(0, 0), flatBehind(2));
            due(atTen("horse 7 20 0;beast 56 0 1 1 0;").hurl(0, 0), flatBehind(3));
        });
        test(12, "(where FAR is less than NEAR: FAR)", () -> {
            due(atTen("horse 0 99 0;beast 20 0 1 1 0;").hurl(0, 0), flatBehind(2));
            due(atTen("horse 20 99 0;beast 20 0 1 1 0;").hurl(0, 0), flatBehind(2));
            due(atTen("horse 20 99 0;beast 21 0 1 1 0;").hurl(0, 0), flatBehind(3));
            due(atTen("horse 20 20 0;beast 20 0 1 1 0;").hurl(0, 0), flatBehind(2));
            due(atTen("horse 20 21 0;beast 20 0 1 1 0;").hurl(0, 0), flatBehind(2));
        });
    }

    private static void flights() {
        test(12, "t, from 1 to 30, is the first for which p times t is D and PACE times t, or more", () -> {
            due(atTen("beast 20 0 1 1 0;").hurl(0, 0), flatBehind(2));
            due(atTen("beast 21 0 1 1 0;").hurl(0, 0), flatBehind(3));
            due(atTen("beast 16 2 1 1 0;").hurl(0, 0), flatBehind(2));
            due(atTen("beast 17 2 1 1 0;").hurl(0, 0), flatBehind(3));
        });
        test(12, "t, from 1 to 30", () -> {
            // Nothing is between: t is 1, not 0, where the beast is no faster.
            due(atTen("horse 20 0 0;beast 40 0 1 1 0;").hurl(0, 0), flatBehind(1));
            due(atTen("horse 20 0 0;beast 100 10 1 1 0;").hurl(0, 0), flatBehind(1));
            due(atTen("horse 20 0 0;beast 101 10 1 1 0;").hurl(0, 0), 500);
            due(atTen("horse 20 0 0;beast 40 11 1 1 0;").hurl(0, 0), 500);
            due(atTen("beast 1 0 1 1 0;").hurl(0, 0), flatBehind(1));
        });
        test(12, "none: it MISSES by 500.", () -> {
            due(atTen("beast 30 9 1 1 0;").hurl(0, 0), 6 * 30 + 1 - 43);
            due(atTen("beast 31 9 1 1 0;").hurl(0, 0), 500);
            due(atTen("beast 60 8 1 1 0;").hurl(1, 0), 4 * 30 - 43);
            due(atTen("beast 61 8 1 1 0;").hurl(1, 0), 500);
            due(atTen("beast 1 10 1 1 0;").hurl(0, 0), 500);
            due(atTen("beast 1 15 1 1 0;").hurl(0, 0), 500);
            // SPIN 0, as at first.
            due(read(STIFF + "beast 1 0 1 1 0;").hurl(0, 0), 500);
        });
    }

    private static void lefts() {
        test(12, "LEFT: SIZE less 6 t (edge: 4 t) less WIDE (edge: WIDE by 2).", () -> {
            // t is 2: flat leaves 31 less WIDE, edge 35 less WIDE by 2, which is cut.
            due(atTen("beast 20 0 30 1 0;").hurl(0, 0), -2);
            due(atTen("beast 20 0 31 1 0;").hurl(0, 0), -1);
            due(atTen("beast 20 0 68 1 0;").hurl(1, 0), -2);
            due(atTen("beast 20 0 69 1 0;").hurl(1, 0), -2);
            due(atTen("beast 20 0 71 1 0;").hurl(1, 0), -1);
        });
        test(12, "LEFT below 0: it MISSES by 0 less LEFT.", () -> {
            due(atTen("beast 20 0 32 1 0;").hurl(0, 0), 1);
            due(atTen("beast 20 0 72 1 0;").hurl(1, 0), 1);
            due(atTen("beast 20 0 100 1 0;").hurl(0, 0), 69);
            due(atTen("beast 20 0 100 1 0;").hurl(1, 0), 15);
        });
        test(12, "or 0 less LEFT less 1.", () -> {
            // Whether the odds are 0 or not: what DUCKS is not missed.
            due(atTen("beast 20 0 31 1 12;").hurl(0, 0), -1);
            due(atTen("beast 1 0 1 9 12;").hurl(1, 0), -(43 - 4 - 0) - 1);
        });
        test(12, "MISSES, LEFT are told by SPIN itself.", () -> {
            // D 25: t is 3 by a SPIN of 10, 2 by 13, 4 by 7.
            due(atTen("horse 0 0 3;beast 25 0 1 1 0;").hurl(0, 0), flatBehind(3));
            due(atTen("horse 0 0 3;beast 25 0 26 1 0;").hurl(0, 0), 1);
            due(read(STIFF + "horse 0 0 3;beast 1 0 1 1 0;").hurl(0, 0), 500);
        });
    }

    private static void behindThrows() {
        test(12, "Behind a THROW it is as behind a CLOSE, but TIRED stays.", () -> {
            SpunLoop x = atTen("beast 20 2 10 3 4;");
            x.tick(0, 3, 0, 4);
            nowIs(x, 43, 11, 7, 41, 6, 0, 0);
            x.hurl(0, 0);
            nowIs(x, 20, 0, 0, 41, 7, 0, NONE);
            // Also behind one that missed, from a loop that had fallen.
            x = kinkedWithBeast();
            due(x.hurl(0, 0), 999);
            nowIs(x, 20, 0, 0, 28, 6, 0, NONE);
            due(x.tick(0, 4, 0, 2), 2);
        });
    }

    private static SpunLoop kinkedWithBeast() {
        SpunLoop x = read(SOFT + "beast 1 0 1 1 0;");
        for (int k = 0; k < 4; k++) {
            x.tick(0, 4, 0, 0);
        }
        x.tick(0, 2, 0, 3);
        return x;
    }

    // ---------------------------------------------------------------- promises 13, 14

    private static void closes() {
        test(13, "CLOSE: SIZE 20, SPIN 0, TWIST 0, not KINKED; TIRED by 2; THE TICK is one more.", () -> {
            SpunLoop x = kinked();
            due(x.close(), 6);
            nowIs(x, 20, 0, 0, 14, 6, 0, NONE);
            x = read(WET);
            x.tick(0, 4, 0, 0);
            due(x.close(), 2);
            nowIs(x, 20, 0, 0, 1, 2, 0, NONE);
            due(x.close(), 3);
            nowIs(x, 20, 0, 0, 0, 3, 0, NONE);
            due(x.close(), 4);
            due(x.now(3), 0);
        });
        test(13, "TIRED by 2", () -> {
            SpunLoop x = spun(read(STIFF), 0, 1, 3, 5, 7, 9);
            due(x.now(3), 25);
            x.close();
            due(x.now(3), 12);
        });
        test(13, "CLOSE: THE TICK. STATE: no WAY.", () -> {
            due(new SpunLoop().close(), STATE);
            due(read(SOFT).close(), 1);
        });
    }

    private static void nows() {
        test(14, "A LOOP has SIZE (20 at first), SPIN (0), TWIST (0), the arm TIRED (0), THE TICK (0)", () ->
            nowIs(read(SOFT), 20, 0, 0, 0, 0, 0));
        test(14, "is KINKED or not (at first not)", () -> due(read(SOFT).now(5), 0));
        test(14, "5 KINKED (1, 0)", () -> {
            due(kinked().now(5), 1);
            // SHUT is not KINKED.
            SpunLoop x = read(WET);
            x.tick(0, 2, 0, 0);
            due(x.now(5), 0);
        });
        test(14, "6 WHY of its latest TICK since it was taken, closed, thrown (NONE).", () -> {
            SpunLoop x = read(STIFF + "beast 1 0 1 1 0;");
            due(x.now(6), NONE);
            x.tick(0, 4, 0, 2);
            due(x.now(6), 2);
            x.tick(0, 2, 0, 2);
            due(x.now(6), 0);
            x.close();
            due(x.now(6), NONE);
            x.tick(0, 4, 0, 2);
            x.hurl(0, 0);
            due(x.now(6), NONE);
            x.tick(0, 4, 0, 2);
            x.take(0, NONE);
            due(x.now(6), NONE);
            x.tick(0, 4, 0, 2);
            feed(x, STIFF);
            x.way();
            due(x.now(6), NONE);
        });
        test(14, "6 WHY of its latest TICK", () -> {
            // A TICK that is refused is none; what is asked leaves it.
            SpunLoop x = kinked();
            x.tick(0, 2, 0, 0);
            x.tick(0, 5, 0, 0);
            x.need(3);
            x.moves(2, 0);
            due(x.now(6), 4);
        });
        test(14, "(NONE). BAD; STATE: no WAY.", () -> {
            SpunLoop x = read(SOFT);
            int[] outside = {-1, 7, LEAST, MOST};
            for (int what : outside) {
                due(x.now(what), BAD);
                due(new SpunLoop().now(what), BAD);
            }
            for (int what = 0; what <= 6; what++) {
                due(new SpunLoop().now(what), STATE);
            }
        });
    }

    // ---------------------------------------------------------------- promise 15

    private static void piecesAre(SpunLoop x, int... where) {
        for (int i = 0; i < where.length; i++) {
            due(x.piece(i), where[i]);
        }
    }

    private static void pieces() {
        test(15, "PIECES of a ROPE: LENGTH by 10.", () -> {
            SpunLoop x = read("rope 40 0 0;rope 49 0 0;rope 50 0 0;");
            due(x.piece(3), 1);
            due(x.piece(4), BAD);
            x.take(1, NONE);
            due(x.piece(3), 1);
            due(x.piece(4), BAD);
            x.take(2, NONE);
            due(x.piece(4), 1);
            due(x.piece(5), BAD);
            due(read(SOFT).piece(39), 0);
            due(read(SOFT).piece(40), BAD);
        });
        test(15, "from the end with the eye on SIZE by 10 are IN THE LOOP (2)", () -> {
            // SIZE 0, 5, 10, 15, 19, 20.
            SpunLoop x = read(WET);
            x.tick(0, 2, 0, 0);
            piecesAre(x, 3, 1, 1, 1);
            x = read(STIFF);
            x.tick(0, 2, 0, 0);
            piecesAre(x, 3, 1, 1, 1, 1, 0);
            x = read(STIFF);
            x.tick(0, 3, 0, 0);
            piecesAre(x, 2, 3, 1, 1, 1, 1, 0);
            x = spun(atFour(), 8, 4);
            due(x.now(0), 19);
            piecesAre(x, 2, 3, 1, 1, 1, 1, 0);
            piecesAre(read(STIFF), 2, 2, 3, 1, 1, 1, 1, 0);
        });
        test(15, "the next one IS IN THE EYE (3; none left: none is)", () -> {
            // A loop takes no more than half its rope, so that there is always one left: at the most here.
            for (String rope : new String[] {"rope 40 9 0;", "rope 49 9 0;", "rope 59 9 0;", "rope 60 9 0;"}) {
                SpunLoop x = spun(read(rope), 9, 2, 4, 6, 8, 10, 12);
                due(x.now(6), 1);
                int in = (int) x.now(0) / 10;
                due(x.piece(in - 1), 2);
                due(x.piece(in), 3);
                due(x.piece(in + 1), 1);
            }
        });
        test(15, "the next 4 and SIZE by 40, or as many as there are, are the SPOKE (1), all others COILED (0).", () -> {
            SpunLoop x = spun(spun(read(STIFF), 8, 2, 4, 6, 8), 6, 8);
            due(x.now(0), 39);
            piecesAre(x, 2, 2, 2, 3, 1, 1, 1, 1, 0, 0);
            x = spun(spun(read(STIFF), 8, 2, 4, 6, 8), 7, 8);
            due(x.now(0), 40);
            piecesAre(x, 2, 2, 2, 2, 3, 1, 1, 1, 1, 1, 0, 0);
        });
        test(15, "or as many as there are", () -> {
            piecesAre(read("rope 60 0 0;"), 2, 2, 3, 1, 1, 1);
            due(read("rope 60 0 0;").piece(6), BAD);
            due(read("rope 70 0 0;").piece(6), 1);
            due(read("rope 70 0 0;").piece(7), BAD);
            due(read("rope 80 0 0;").piece(7), 0);
        });
        test(15, "Where PIECE i of THE LIVE LOOP is (0 to 3). BAD; STATE: no WAY (ahead of BAD).", () -> {
            SpunLoop x = read(SOFT);
            due(x.piece(-1), BAD);
            due(x.piece(LEAST), BAD);
            due(x.piece(MOST), BAD);
            due(new SpunLoop().piece(0), STATE);
            due(new SpunLoop().piece(-1), STATE);
            due(new SpunLoop().piece(MOST), STATE);
        });
        test(15, "Of a LOOP: from the end with the eye on", () -> {
            // The greatest loop of the longest rope: 200, and of the shortest: 20.
            SpunLoop x = spun(read(STIFF), 9, 2, 4, 6, 8, 10, 12, 14, 15);
            for (int k = 0; k < 10; k++) {
                x.tick(0, 2, 9, 14);
            }
            due(x.now(0), 200);
            due(x.piece(19), 2);
            due(x.piece(20), 3);
            due(x.piece(21), 1);
            due(x.piece(29), 1);
            due(x.piece(30), 0);
            piecesAre(read("rope 40 9 0;"), 2, 2, 3, 1);
        });
    }

    // ---------------------------------------------------------------- promise 16

    private static void oddsAre(SpunLoop x, int how, int beast, long above, long below) {
        due(x.odds(how, beast, 0), above);
        due(x.odds(how, beast, 1), below);
    }

    private static void odds() {
        test(16, "ODDS of a THROW now: above (what = 0), below (1). BAD.", () -> {
            SpunLoop x = atTen("beast 20 0 10 3 4;");
            int[] outside = {-1, 2, LEAST, MOST};
            for (int bad : outside) {
                due(x.odds(bad, 0, 0), BAD);
                due(x.odds(0, bad, 0), BAD);
                due(x.odds(0, 0, bad), BAD);
            }
            due(x.odds(0, 1, 0), BAD);
            due(new SpunLoop().odds(0, 0, 0), BAD);
            due(read(STIFF).odds(0, 0, 0), BAD);
        });
        test(16, "fractions are told as two numbers in lowest terms (0 is 0 by 1)", () -> {
            oddsAre(atTen("beast 20 0 10 3 0;"), 0, 0, 1, 1);
            oddsAre(atTen("beast 20 0 10 3 11;"), 0, 0, 1, 12);
            oddsAre(atTen("beast 20 0 10 3 10;"), 0, 0, 1, 6);
            oddsAre(atTen("beast 20 0 10 3 5;"), 0, 0, 7, 12);
            oddsAre(atTen("beast 20 0 10 3 4;"), 0, 0, 2, 3);
            oddsAre(atTen("beast 20 0 10 3 12;"), 0, 0, 0, 1);
            // By a hand that shakes a 0 is 0 by 1, too.
            oddsAre(atTen("horse 0 0 3;beast 200 0 10 3 0;"), 0, 0, 0, 1);
        });
        test(16, "Else the odds of 12: flat: 12 less DUCK", () -> {
            // LEFT is 0, then 1 below it; edge does not DUCK.
            oddsAre(atTen("beast 20 0 31 1 1;"), 0, 0, 11, 12);
            oddsAre(atTen("beast 20 0 32 1 1;"), 0, 0, 0, 1);
            oddsAre(atTen("beast 20 0 31 1 12;"), 1, 0, 1, 1);
        });
        test(16, "edge: 12, if t is a whole number of GAITS, else 4.", () -> {
            // t is 3 here: GAITS of 1 and 3, no other; of 6 the GAIT 6 as well; of 1 only 1.
            int[] good = {1, 0, 1, 0, 0, 0, 0, 0, 0};
            for (int gait = 1; gait <= 9; gait++) {
                oddsAre(atTen("beast 30 0 1 " + gait + " 0;"), 1, 0, 1, good[gait - 1] == 1 ? 1 : 3);
                oddsAre(atTen("beast 60 0 1 " + gait + " 0;"), 1, 0, 1, 6 % gait == 0 ? 1 : 3);
                oddsAre(atTen("beast 10 0 1 " + gait + " 0;"), 1, 0, 1, gait == 1 ? 1 : 3);
            }
            oddsAre(atTen("beast 20 0 70 2 0;"), 1, 0, 1, 1);
            oddsAre(atTen("beast 20 0 72 2 0;"), 1, 0, 0, 1);
        });
        test(16, "SHUT, KINKED", () -> {
            // Also where it was sure a TICK ago.
            SpunLoop x = atTen("horse 20 0 0;beast 1 0 1 1 0;");
            oddsAre(x, 0, 0, 1, 1);
            for (int k = 0; k < 7; k++) {
                x.tick(0, 2, 0, 0);
            }
            due(x.now(5), 1);
            oddsAre(x, 0, 0, 0, 1);
            x = kinkedWithBeast();
            oddsAre(x, 0, 0, 0, 1);
            oddsAre(x, 1, 0, 0, 1);
            x = read(WET + "horse 20 0 3;beast 1 0 1 1 0;");
            x.tick(0, 2, 0, 0);
            oddsAre(x, 0, 0, 0, 1);
        });
        test(16, "ODDS of a THROW now", () -> {
            // Nothing is thrown by it.
            SpunLoop x = atTen("beast 20 0 10 3 4;");
            x.odds(0, 0, 0);
            x.odds(1, 0, 1);
            nowIs(x, 43, 10, 0, 30, 5, 0, 0);
        });
    }

    private static void shakes() {
        test(16, "by SHAKE s the SPIN is each from SPIN less s to SPIN and s as likely", () -> {
            // By flat at a WIDE of 30 t may be 2, not 3. SPIN 10, SHAKE 3: 13 is the greatest, 7 the least.
            oddsAre(atTen("horse 0 0 3;beast 26 0 30 1 0;"), 0, 0, 1, 7);
            oddsAre(atTen("horse 0 0 3;beast 27 0 30 1 0;"), 0, 0, 0, 1);
            oddsAre(atTen("horse 0 0 3;beast 14 0 30 1 0;"), 0, 0, 1, 1);
            oddsAre(atTen("horse 0 0 3;beast 15 0 30 1 0;"), 0, 0, 6, 7);
            oddsAre(atTen("horse 0 0 1;beast 22 0 30 1 0;"), 0, 0, 1, 3);
            oddsAre(atTen("horse 0 0 1;beast 23 0 30 1 0;"), 0, 0, 0, 1);
            oddsAre(atTen("horse 0 0 1;beast 18 0 30 1 0;"), 0, 0, 1, 1);
            oddsAre(atTen("horse 0 0 1;beast 19 0 30 1 0;"), 0, 0, 2, 3);
            oddsAre(atTen("horse 0 0 0;beast 20 0 30 1 0;"), 0, 0, 1, 1);
            oddsAre(atTen("horse 0 0 0;beast 21 0 30 1 0;"), 0, 0, 0, 1);
        });
        test(16, "SPIN and s", () -> {
            // Above 15, too: 18 is enough for t 1, 17 is not.
            String text = "horse 0 0 3;beast 18 0 9 1 0;";
            SpunLoop x = spun(read(STIFF + text), 0, 2, 4, 6, 8, 10, 12, 14, 15);
            due(x.now(0), 15);
            oddsAre(x, 0, 0, 1, 7);
        });
        test(16, "(below 0: 0)", () -> {
            // Nothing is between at TICK 1, so that a SPIN of 0 is enough, and all seven are.
            SpunLoop x = read(STIFF + "horse 20 0 3;beast 9 0 1 1 0;");
            x.close();
            oddsAre(x, 0, 0, 1, 1);
            // At TICK 0 a SPIN of 1 or more is needed, and t is 9, 5, 3 by 1, 2, 3.
            oddsAre(read(STIFF + "horse 20 0 3;beast 9 0 1 1 0;"), 0, 0, 1, 7);
        });
        test(16, "all odds of 12, added, by 12 times (2 s and 1).", () -> {
            // D 20, PACE 2, SPINS 7 to 13: t is 4, 4, 3, 3, 3, 2, 2.
            SpunLoop x = atTen("horse 0 0 3;beast 20 2 10 3 4;beast 20 2 26 2 4;");
            oddsAre(x, 0, 0, 2, 3);
            oddsAre(x, 1, 0, 13, 21);
            oddsAre(x, 0, 1, 4, 21);
            oddsAre(x, 1, 1, 5, 7);
        });
    }

    // ---------------------------------------------------------------- promises 17 to 20

    private static void needs() {
        test(17, "NEED of a SIZE with a ROPE: 4, and SIZE by 20, and 2 if WET, less STIFF by 4, 1 at least.", () -> {
            SpunLoop x = read("rope 40 0 0;rope 40 3 0;rope 40 4 1;");
            long[] needs = {0, 4, 19, 4, 20, 5, 39, 5, 40, 6, 199, 13, 200, 14};
            for (int k = 0; k < needs.length; k += 2) {
                due(x.need((int) needs[k]), needs[k + 1]);
            }
            x.take(1, NONE);
            due(x.need(0), 4);
            x.take(2, NONE);
            due(x.need(0), 5);
            x = read("rope 40 7 0;rope 40 8 0;rope 40 9 1;");
            due(x.need(0), 3);
            x.take(1, NONE);
            due(x.need(0), 2);
            x.take(2, NONE);
            due(x.need(0), 4);
        });
        test(17, "NEED of a SIZE (0 to 200) with the ROPE TAKEN. BAD; STATE: no WAY.", () -> {
            int[] outside = {-1, 201, LEAST, MOST};
            for (int size : outside) {
                due(read(SOFT).need(size), BAD);
                due(new SpunLoop().need(size), BAD);
            }
            due(new SpunLoop().need(0), STATE);
            due(new SpunLoop().need(200), STATE);
            // Also beyond the ROOM of the rope.
            due(read("rope 40 0 0;").need(200), 14);
        });
    }

    private static void greatest() {
        test(18, "GREATEST SIZE that OPENS at a SPIN (0 to 15) by spin, 0 to 400; NONE.", () -> {
            SpunLoop x = read("rope 40 9 0;rope 40 0 0;rope 40 0 1;");
            due(x.greatest(0), NONE);
            due(x.greatest(1), NONE);
            due(x.greatest(2), 19);
            due(x.greatest(3), 39);
            due(x.greatest(15), 279);
            x.take(1, NONE);
            due(x.greatest(3), NONE);
            due(x.greatest(4), 19);
            due(x.greatest(15), 239);
            x.take(2, NONE);
            due(x.greatest(5), NONE);
            due(x.greatest(6), 19);
            due(x.greatest(15), 199);
        });
        test(18, "GREATEST SIZE; NONE. BAD; STATE: no WAY.", () -> {
            int[] outside = {-1, 16, LEAST, MOST};
            for (int spin : outside) {
                due(read(SOFT).greatest(spin), BAD);
                due(new SpunLoop().greatest(spin), BAD);
            }
            due(new SpunLoop().greatest(0), STATE);
            due(new SpunLoop().greatest(15), STATE);
        });
    }

    private static void outs() {
        test(19, "OUT; NONE. BAD; STATE: no WAY.", () -> {
            int[][] outside = {{-1, 1}, {16, 1}, {LEAST, 1}, {MOST, 1}, {0, 0}, {0, 41}, {0, -1}, {0, LEAST}, {0, MOST}};
            for (int[] bad : outside) {
                due(read(SOFT).out(bad[0], bad[1]), BAD);
                due(new SpunLoop().out(bad[0], bad[1]), BAD);
            }
            due(new SpunLoop().out(0, 1), STATE);
            due(new SpunLoop().out(15, 40), STATE);
        });
        test(19, "OUT: the least TURN (0 to 15) by which n TICKS (1 to 40) with a SPIN that stays add TWIST", () -> {
            // LIMIT 24: 2 times 12 is on it, 2 times 13 beyond.
            SpunLoop x = read(SOFT);
            due(x.out(0, 1), 0);
            due(x.out(15, 1), 0);
            due(x.out(12, 2), 0);
            due(x.out(13, 2), 1);
            due(x.out(15, 40), 15);
            due(x.out(1, 24), 0);
            due(x.out(1, 25), 1);
            due(x.out(10, 24), 9);
            due(x.out(10, 25), 10);
            // By the stiffest rope 60.
            x = read(STIFF);
            due(x.out(15, 4), 0);
            due(x.out(15, 5), 3);
            due(x.out(15, 40), 14);
        });
        test(19, "to that of the LIVE LOOP", () -> {
            // TWIST 24, then -24.
            SpunLoop x = read(SOFT);
            for (int k = 0; k < 4; k++) {
                x.tick(0, 4, 0, 0);
            }
            x.tick(0, 2, 0, 4);
            due(x.now(2), 24);
            due(x.out(8, 1), 8);
            due(x.out(0, 40), 0);
            due(x.out(15, 40), 15);
            x = read(SOFT);
            x.tick(0, 4, 0, 15);
            x.tick(0, 4, 0, 15);
            due(x.now(2), -24);
            due(x.out(15, 3), 0);
            due(x.out(15, 4), 3);
            due(x.out(12, 4), 0);
            due(x.out(13, 4), 1);
        });
        test(19, "it is KINKED behind none of them; NONE.", () -> {
            // TWIST 25: it must come back by the first TICK, which a TURN of 15 brings for a SPIN of 14 at most.
            SpunLoop x = kinked();
            due(x.out(0, 1), 1);
            due(x.out(14, 1), 15);
            due(x.out(15, 1), NONE);
            due(x.out(14, 40), 15);
            due(x.out(0, 40), 1);
            // TWIST 30: a TURN of 6 brings it to 24, and nine times over to -24; ten times are too many.
            x = read(SOFT);
            for (int k = 0; k < 5; k++) {
                x.tick(0, 4, 0, 0);
            }
            due(x.now(2), 30);
            due(x.out(0, 9), 6);
            due(x.out(0, 10), NONE);
            x = read(SOFT);
            x.tick(0, 4, 9, 15);
            x.tick(0, 3, 9, 15);
            due(x.now(2), -25);
            due(x.out(0, 1), NONE);
            due(x.out(1, 1), 0);
        });
    }

    private static void wraps() {
        test(20, "WRAPS for a PULL (1 to 999999) and a GRIP (1 to 99); NONE. BAD.", () -> {
            SpunLoop x = new SpunLoop();
            int[] pulls = {0, -1, 1000000, LEAST, MOST};
            for (int pull : pulls) {
                due(x.wraps(pull, 1), BAD);
            }
            int[] grips = {0, -1, 100, LEAST, MOST};
            for (int grip : grips) {
                due(x.wraps(1, grip), BAD);
            }
            due(x.wraps(1, 1), 0);
            due(x.wraps(1, 99), 0);
            due(x.wraps(999999, 99), 9);
        });
        test(20, "the least w (0 to 9) so that GRIP, 3 times w times over, is PULL or more; NONE.", () -> {
            SpunLoop x = new SpunLoop();
            int holds = 7;
            for (int w = 0; w <= 9; w++) {
                due(x.wraps(holds, 7), w);
                due(x.wraps(holds + 1, 7), w == 9 ? NONE : w + 1);
                holds *= 3;
            }
            due(x.wraps(19683, 1), 9);
            due(x.wraps(19684, 1), NONE);
            due(x.wraps(999999, 50), NONE);
            due(x.wraps(999999, 51), 9);
            due(x.wraps(999999, 1), NONE);
        });
    }
}
