/** Boundaries of promises 25 to 31: rows of moves, fewest TICKS, shows, a child, films, images. */
final class SoughtEdges extends Edges {
    @Override
    void all() {
        rowsThatAreRefused();
        eachMove();
        throwsOfRows();
        rowsThatAreShort();
        rowsThatEndAnew();
        firstOfSeveral();
        fewestThatAreRefused();
        fewest();
        fewestThroughSmallLoopsAndTiredArms();
        shows();
        longestShows();
        learnsThatAreRefused();
        learns();
        filmsThatAreRefused();
        films();
        images();
        restores();
    }

    // ---------------------------------------------------------------- promise 25

    private static void rowIs(SpunLoop x, int n, long worth, int... moves) {
        due(x.moves(n, -1), worth);
        for (int i = 0; i < moves.length; i++) {
            due(x.moves(n, i), moves[i]);
        }
        for (int i = moves.length; i <= 5; i++) {
            due(x.moves(n, i), NONE);
        }
    }

    private static void rowsThatAreRefused() {
        test(25, "BAD: n, i below -1; STATE: no WAY.", () -> {
            SpunLoop x = atTen("");
            int[] outside = {0, 6, -1, LEAST, MOST};
            for (int n : outside) {
                due(x.moves(n, 0), BAD);
                due(x.moves(n, -1), BAD);
                due(new SpunLoop().moves(n, 0), BAD);
            }
        });
        test(25, "i below -1", () -> {
            SpunLoop x = atTen("");
            due(x.moves(1, -2), BAD);
            due(x.moves(5, LEAST), BAD);
            due(new SpunLoop().moves(1, -2), BAD);
            due(x.moves(1, -1), 0);
        });
        test(25, "ROW of n MOVES: its WORTH (i = -1), MOVE i; NONE: not so many. BAD: n, i below -1; STATE: no WAY.", () -> {
            due(new SpunLoop().moves(1, 0), STATE);
            due(new SpunLoop().moves(5, -1), STATE);
        });
        test(25, "MOVE i; NONE: not so many.", () -> {
            SpunLoop x = atTen("");
            due(x.moves(1, 0), 0);
            due(x.moves(1, 1), NONE);
            due(x.moves(5, 4), 0);
            due(x.moves(5, 5), NONE);
            due(x.moves(5, MOST), NONE);
        });
        test(25, "ROW of n MOVES (1 to 5) from the LIVE LOOP, the best", () -> {
            SpunLoop x = atTen("");
            for (int n = 1; n <= 5; n++) {
                rowIs(x, n, 0, new int[n]);
            }
            // Nothing is moved by it.
            nowIs(x, 43, 10, 0, 30, 5, 0, 0);
        });
        test(25, "What is refused, or found, changes nothing but status().", () -> {
            refused(x -> x.moves(0, 0), BAD);
            refused(x -> x.moves(1, -2), BAD);
        });
    }

    /** A beast that an edge catches by a t that is a whole number of 3 alone, at a loop of half its WIDE and 12. */
    private static SpunLoop edgeAt(int far, int wide) {
        return atTen("beast " + far + " 0 " + wide + " 3 12;rule 99 0 7 2;");
    }

    private static void eachMove() {
        test(25, "0 to 5 (0, 2, 4 for UP 1, 2, 3, and 1 more for LET 8)", () -> {
            // From SIZE 43, SPIN 10 each of these TICKS is the first that makes SIZE and t right.
            rowIs(edgeAt(27, 70), 2, 7, 0, 7);
            rowIs(edgeAt(20, 80), 2, 7, 1, 7);
            rowIs(edgeAt(30, 72), 2, 7, 2, 7);
            rowIs(edgeAt(30, 82), 2, 7, 3, 7);
            rowIs(edgeAt(33, 72), 2, 7, 4, 7);
            rowIs(edgeAt(33, 84), 2, 7, 5, 7);
            // And by half a WIDE more none does.
            rowIs(edgeAt(33, 86), 2, 0, 0, 0);
        });
        test(25, "TURN as SPIN will be (TWIST stays)", () -> {
            // TWIST is on the LIMIT, above and below, and no MOVE kinks it.
            SpunLoop x = read(SOFT);
            for (int k = 0; k < 4; k++) {
                x.tick(0, 4, 0, 0);
            }
            x.tick(0, 2, 0, 4);
            due(x.now(2), 24);
            rowIs(x, 5, 0, 0, 0, 0, 0, 0);
            // From 5 by 9 and 10 it is 24, of which a flat with a t of 1 leaves nothing, but catches.
            x = read(SOFT + "beast 10 0 18 1 0;rule 99 3 0 0;");
            for (int k = 0; k < 4; k++) {
                x.tick(0, 4, 0, 0);
            }
            x.tick(0, 2, 0, 4);
            rowIs(x, 3, 3, 5, 5, 6);
        });
        test(25, "a MOVE is a TICK of spin", () -> {
            // By stand it would not open: SPIN 3 at a SIZE of 15, which needs 2.
            SpunLoop x = spun(read(STIFF + "horse 20 0 0;beast 1 0 8 1 0;rule 99 3 0 0;"), 0, 2, 3);
            due(x.now(0), 15);
            rowIs(x, 1, 3, 6);
            rowIs(x, 2, 3, 0, 6);
        });
    }

    private static final String HOPELESS = "beast 200 15 100 1 12;";

    private static void throwsOfRows() {
        test(25, "6, and 2 times the BEAST, and 1 for edge", () -> {
            for (int beast = 0; beast < 4; beast++) {
                String others = HOPELESS.repeat(3 - beast);
                rowIs(atTen(HOPELESS.repeat(beast) + "beast 20 2 10 3 12;" + others + "rule 99 5 7 2;"), 1, 7, 7 + 2 * beast);
                rowIs(atTen(HOPELESS.repeat(beast) + "beast 20 2 10 2 0;" + others + "rule 99 5 7 2;"), 1, 5, 6 + 2 * beast);
            }
        });
        test(25, "at a BEAST that no THROW of the ROW was at", () -> {
            // Each is caught by any THROW behind TICK 0, but only once.
            String sure = "beast 1 0 1 1 0;";
            for (int beasts = 1; beasts <= 4; beasts++) {
                SpunLoop x = read(STIFF + "horse 20 0 0;" + sure.repeat(beasts) + "rule 200 5 0 0;");
                x.close();
                due(x.moves(5, -1), 5 * beasts);
            }
            SpunLoop x = read(STIFF + "horse 20 0 0;" + sure.repeat(4) + "rule 200 5 0 0;");
            x.close();
            rowIs(x, 3, 15, 6, 8, 10);
            rowIs(x, 4, 20, 6, 8, 10, 12);
            rowIs(x, 5, 20, 4, 6, 8, 10, 12);
        });
        test(25, "WORTH: HEAD, FEET, less MISS, as for SCORE, added.", () -> {
            // Half is enough, less is not; at SECONDS it counts, behind it does not.
            rowIs(atTen("beast 20 2 10 9 6;rule 99 8 7 2;"), 1, 8, 6);
            rowIs(atTen("beast 20 2 10 9 7;rule 99 8 7 2;"), 1, 0, 0);
            rowIs(atTen("beast 20 2 10 3 4;rule 5 8 7 2;"), 1, 8, 6);
            rowIs(atTen("beast 20 2 10 3 4;rule 4 8 7 2;"), 1, 0, 0);
            rowIs(atTen("beast 20 2 10 3 4;rule 5 8 7 2;"), 2, 8, 6, 0);
            rowIs(atTen("beast 20 2 10 3 4;rule 6 8 7 2;"), 2, 8, 0, 6);
        });
        test(25, "as for SCORE, added", () -> {
            // Two that are sure, at TICKS 5 and 6: both count, then one, then none.
            String two = "horse 20 0 0;beast 1 0 1 1 0;beast 1 0 1 1 0;";
            rowIs(atTen(two + "rule 6 5 0 0;"), 2, 10, 6, 8);
            due(atTen(two + "rule 5 5 0 0;").moves(2, -1), 5);
            due(atTen(two + "rule 4 5 0 0;").moves(2, -1), 0);
            // By a SHAKE of 1 SPINS 10 and 11 are enough at D 20, 11 alone at 21.
            rowIs(atTen("horse 0 0 1;beast 20 0 30 9 0;rule 99 5 7 2;"), 1, 5, 6);
            rowIs(atTen("horse 0 0 1;beast 21 0 30 9 0;rule 99 5 7 2;"), 1, 0, 0);
            // Three of seven are less than a half, four are more: 10, 11, 12, 13 at D 20; 11, 12, 13 at 21.
            rowIs(atTen("horse 0 0 3;beast 20 0 30 9 0;rule 99 5 7 2;"), 1, 5, 6);
            rowIs(atTen("horse 0 0 3;beast 21 0 30 9 0;rule 99 5 7 2;"), 1, 0, 0);
        });
        test(25, "SPIN will be", () -> {
            // As fast as can be: 15. A flat from there is good, an edge from the first loop is not.
            String text = HOPELESS + "beast 15 0 1 9 0;rule 99 1 50 0;";
            SpunLoop x = spun(read(STIFF + text), 8, 2, 4, 6, 8, 10, 12, 14);
            rowIs(x, 2, 1, 0, 8);
            x.tick(0, 3, 0, 15);
            due(x.now(1), 15);
            rowIs(x, 1, 1, 8);
            rowIs(x, 3, 1, 0, 0, 8);
        });
        test(25, "(when fallen, too)", () -> {
            // KINKED, SHUT: a THROW misses, and the next is from a loop that begins anew.
            SpunLoop x = read(WET + "horse 20 0 0;beast 1 0 1 1 0;beast 1 0 1 1 0;rule 99 8 0 2;");
            x.tick(0, 2, 0, 0);
            rowIs(x, 1, -2, 6);
            rowIs(x, 2, 6, 6, 8);
            x = atTen("horse 20 0 0;beast 1 0 1 1 0;beast 1 0 1 1 0;rule 99 8 0 2;");
            for (int k = 0; k < 7; k++) {
                x.tick(0, 2, 0, 0);
            }
            due(x.now(5), 1);
            rowIs(x, 1, -2, 6);
            rowIs(x, 2, 6, 6, 8);
        });
    }

    private static void rowsThatAreShort() {
        test(25, "a TICK cannot be made, where it is KINKED or SHUT", () -> {
            SpunLoop x = read(WET);
            x.tick(0, 2, 0, 0);
            rowIs(x, 1, 0);
            rowIs(x, 5, 0);
            x = atTen("");
            for (int k = 0; k < 7; k++) {
                x.tick(0, 2, 0, 0);
            }
            due(x.now(5), 1);
            rowIs(x, 5, 0);
        });
        test(25, "a ROW is shorter, where no MOVE can be made any more.", () -> {
            // The first TICK shuts it; a THROW is made where it can be, even if it is worth less than nothing.
            rowIs(read(WET), 5, 0, 0);
            SpunLoop x = read(WET + "beast 200 0 1 1 0;rule 99 8 7 2;");
            rowIs(x, 1, 0, 0);
            rowIs(x, 2, -2, 0, 6);
            rowIs(x, 3, -2, 0, 6, 0);
            rowIs(x, 4, -2, 0, 6, 0);
            x.tick(0, 2, 0, 0);
            rowIs(x, 1, -2, 6);
            rowIs(x, 2, -2, 6, 0);
            rowIs(x, 5, -2, 6, 0);
        });
    }

    private static void rowsThatEndAnew() {
        test(25, "where no MOVE can be made any more", () -> {
            // A THROW now, the TICK behind which shuts the loop, and nothing more: no better than two TICKS ahead of it.
            SpunLoop x = spun(read(SOFT + "beast 20 2 10 3 4;rule 99 5 0 0;"), 8, 2, 4, 6, 8, 10);
            nowIs(x, 33, 10, 0, 30, 5, 0, 0);
            rowIs(x, 1, 5, 6);
            rowIs(x, 3, 5, 0, 0, 6);
        });
        test(25, "a ROW is shorter", () -> {
            // Also where a longer one of much WORTH was sought before.
            SpunLoop x = read(STIFF + "horse 20 0 0;" + "beast 1 0 1 1 0;".repeat(4) + "rule 99 5 0 0;");
            x.close();
            due(x.moves(4, -1), 20);
            feed(x, WET + "beast 200 0 1 1 0;rule 99 8 7 2;");
            x.way();
            rowIs(x, 4, -2, 0, 6, 0);
            x.tick(0, 2, 0, 0);
            rowIs(x, 4, -2, 6, 0);
        });
        test(25, "ROW of n MOVES: its WORTH (i = -1)", () -> {
            // However often it is asked, and in whatever order.
            SpunLoop x = atTen("beast 20 2 10 3 4;rule 99 5 7 2;");
            due(x.moves(2, 1), 7);
            due(x.moves(2, -1), 7);
            due(x.moves(2, -1), 7);
            due(x.moves(1, 0), 7);
            due(x.moves(1, -1), 7);
            due(x.moves(2, 0), 0);
        });
        test(25, "THE LIVE LOOP goes by calls.", () -> {
            // It is as it was, but for THE TICK: at SECONDS the THROW counts, behind it does not.
            SpunLoop x = atTen("beast 20 2 10 3 4;rule 5 8 7 2;");
            rowIs(x, 1, 8, 6);
            x.tick(0, 2, 0, 10);
            nowIs(x, 43, 10, 0, 40, 6, 0, 0);
            rowIs(x, 1, 0, 0);
            x = read(STIFF + "horse 20 0 0;beast 1 0 1 1 0;rule 1 8 7 2;");
            rowIs(x, 1, 0, 0);
            x.close();
            rowIs(x, 1, 8, 6);
            x.close();
            nowIs(x, 20, 0, 0, 0, 2, 0, NONE);
            rowIs(x, 1, 0, 0);
            // Behind a THROW: the loop that a row of two was sought through.
            x = atTen("beast 20 2 10 3 4;rule 99 5 7 2;");
            due(x.moves(2, -1), 7);
            x.hurl(0, 0);
            rowIs(x, 2, 0, 0, 0);
        });
    }

    private static void firstOfSeveral() {
        test(25, "The ROW of the greatest WORTH, of several the first by its MOVES", () -> {
            // Equal: TICKS ahead of THROWS, flat ahead of edge, the lesser beast first.
            rowIs(atTen("beast 20 2 10 3 4;rule 99 0 0 0;"), 2, 0, 0, 0);
            rowIs(atTen("beast 20 2 10 3 4;rule 99 7 7 2;"), 1, 7, 6);
            rowIs(atTen("beast 20 2 10 3 4;rule 99 7 8 2;"), 1, 8, 7);
            rowIs(atTen("beast 20 2 10 3 4;beast 20 2 10 3 4;rule 99 7 7 2;"), 1, 7, 6);
            rowIs(atTen("beast 20 2 10 3 8;beast 20 2 10 3 4;rule 99 7 0 2;"), 1, 7, 8);
            rowIs(atTen("beast 20 2 10 3 4;rule 99 5 7 2;"), 3, 7, 0, 2, 7);
        });
        test(25, "from the LIVE LOOP", () -> {
            // What was sought before does not stay when the loop, the rope, the way become others.
            SpunLoop x = atTen("beast 20 2 10 3 4;rule 99 5 7 2;");
            rowIs(x, 1, 7, 7);
            x.tick(0, 0, 0, 8);
            // SPIN 8: t is 4, an edge of 4 and a flat that leaves 9.
            rowIs(x, 1, 5, 6);
            x.close();
            rowIs(x, 1, 0, 0);
            x = read("rope 400 9 0;rope 40 0 1;horse 20 0 0;horse 0 0 0;beast 1 0 1 1 0;rule 99 8 7 2;");
            rowIs(x, 2, 8, 4, 6);
            x.take(1, 0);
            rowIs(x, 2, -2, 0, 6);
            x.take(0, 0);
            rowIs(x, 2, 8, 4, 6);
            // Nor when a WAY is read, or an IMAGE is restored, whose first loop is the same.
            x.image(0);
            feed(x, "rope 400 9 0;horse 20 0 0;beast 1 0 1 1 0;rule 99 3 9 2;");
            x.way();
            rowIs(x, 2, 9, 0, 7);
            x.restore(0);
            rowIs(x, 2, 8, 4, 6);
        });
    }

    // ---------------------------------------------------------------- promise 26

    private static void fewestThatAreRefused() {
        test(26, "FEWEST TICKS to a SIZE (1 to 200) by n at most; NONE. BAD; STATE: no WAY.", () -> {
            int[] outside = {0, 201, -1, LEAST, MOST};
            for (int size : outside) {
                due(read(STIFF).fewest(size, 0), BAD);
                due(new SpunLoop().fewest(size, 0), BAD);
            }
            due(new SpunLoop().fewest(1, 0), STATE);
            due(new SpunLoop().fewest(200, 12), STATE);
        });
        test(26, "by n (0 to 12) at most", () -> {
            int[] outside = {-1, 13, LEAST, MOST};
            for (int n : outside) {
                due(read(STIFF).fewest(1, n), BAD);
                due(new SpunLoop().fewest(1, n), BAD);
            }
            due(read(STIFF).fewest(1, 0), 0);
            due(read(STIFF).fewest(1, 12), 0);
            due(read(STIFF).fewest(200, 12), NONE);
        });
        test(26, "What is refused, or found, changes nothing but status().", () -> {
            refused(x -> x.fewest(0, 0), BAD);
            refused(x -> x.fewest(1, 13), BAD);
        });
    }

    private static void fewest() {
        test(26, "until SIZE is s or more; by n (0 to 12) at most; NONE.", () -> {
            // From the first loop: 10, 12, 15, 19, 24, 30 by SPINS 1 to 6.
            SpunLoop x = read(STIFF);
            due(x.fewest(20, 0), 0);
            due(x.fewest(20, 12), 0);
            due(x.fewest(21, 0), NONE);
            due(x.fewest(21, 4), NONE);
            due(x.fewest(21, 5), 5);
            due(x.fewest(24, 12), 5);
            due(x.fewest(25, 5), NONE);
            due(x.fewest(25, 6), 6);
            due(x.fewest(30, 12), 6);
            due(x.fewest(31, 12), 7);
            nowIs(x, 20, 0, 0, 0, 0, 0, NONE);
        });
        test(26, "FEWEST TICKS to a SIZE s from the LIVE LOOP: by MOVES 0 to 5 alone", () -> {
            SpunLoop x = atTen("");
            due(x.fewest(43, 0), 0);
            due(x.fewest(44, 0), NONE);
            due(x.fewest(54, 12), 1);
            due(x.fewest(55, 12), 2);
            due(x.fewest(200, 12), 12);
            due(x.fewest(200, 11), NONE);
        });
        test(26, "TOP at most: 15 less TIRED by 64", () -> {
            // SPIN 15, TIRED 71: 14 five times over, then 13: 98, 112, 126, 140, 154, 167, 180, 193.
            SpunLoop x = spun(read(STIFF), 8, 2, 4, 6, 8, 10, 12, 14, 15);
            nowIs(x, 84, 15, 0, 71, 8);
            due(x.fewest(98, 12), 1);
            due(x.fewest(99, 12), 2);
            due(x.fewest(154, 12), 5);
            due(x.fewest(155, 12), 6);
            due(x.fewest(193, 12), 8);
            due(x.fewest(194, 12), 9);
        });
        test(26, "by MOVES 0 to 5 alone", () -> {
            // An arm that turns by 12 at most keeps 179 open, not 180. From 173 by LET 4 and 8: 179, 191.
            SpunLoop x = spun(read(SOFT), 8, 2, 4, 6, 8, 10, 12, 14, 15, 14, 14, 14, 14, 14, 13, 13);
            spun(spun(x, 0, 13, 13), 2, 12);
            nowIs(x, 173, 12, 0, 205, 18, 0, 0);
            due(x.fewest(185, 12), 1);
            due(x.fewest(186, 12), 2);
            due(x.fewest(191, 12), 2);
            due(x.fewest(191, 1), NONE);
        });
        test(26, "ROOM at most", () -> {
            SpunLoop x = spun(read("rope 99 9 0;"), 8, 2, 4, 6, 8, 10);
            due(x.now(0), 43);
            due(x.fewest(49, 12), 1);
            due(x.fewest(50, 12), NONE);
            x = read("rope 40 9 0;");
            due(x.fewest(20, 0), 0);
            due(x.fewest(21, 12), NONE);
            // By the longest rope 200 is the ROOM, and can be had.
            x = spun(read(STIFF), 9, 2, 4, 6, 8, 10, 12, 14, 15, 14, 14, 14, 14, 14);
            due(x.fewest(200, 12) > 0 ? 1 : 0, 1);
            x = spun(read(STIFF), 8, 2, 4, 6, 8, 10, 12, 14, 15, 14, 14, 14, 14, 14, 13, 13, 13);
            due(x.now(0), 193);
            due(x.fewest(200, 12), 1);
            due(x.fewest(200, 0), NONE);
        });
        test(26, "FEWEST TICKS to a SIZE s", () -> {
            // SHUT, KINKED: as it is, or never.
            SpunLoop x = read(WET);
            x.tick(0, 2, 0, 0);
            due(x.fewest(1, 12), NONE);
            x = atTen("");
            for (int k = 0; k < 7; k++) {
                x.tick(0, 2, 0, 0);
            }
            due(x.now(5), 1);
            due(x.fewest(43, 0), 0);
            due(x.fewest(44, 12), NONE);
            // A loop that lacks SPIN shrinks first; one that is SHUT on its way goes nowhere.
            due(read(SOFT).fewest(20, 0), 0);
            due(read(SOFT).fewest(21, 12), NONE);
        });
    }

    private static void fewestThroughSmallLoopsAndTiredArms() {
        test(26, "else by 5 times (stand: 3 times) what SPIN lacks of that less, 0 at least", () -> {
            // NEED is 4, then 5 from 20 on. From 13 by SPINS 3 to 6: 8, 12, 17, 23.
            SpunLoop x = spun(read(SOFT), 8, 2, 4, 6, 8, 10);
            spun(x, 0, 8, 6, 4, 2);
            nowIs(x, 13, 2, 0, 50, 9, 0, 2);
            due(x.fewest(13, 12), 0);
            due(x.fewest(14, 2), NONE);
            due(x.fewest(14, 12), 3);
            due(x.fewest(17, 12), 3);
            due(x.fewest(18, 12), 4);
            due(x.fewest(23, 12), 4);
            due(x.fewest(24, 12), 5);
        });
        test(26, "0 at least", () -> {
            // SIZE 2 and SPIN 1: 20, 15 and 10 less by UP 1, 2, 3, so all of them shut it.
            SpunLoop x = read(SOFT);
            due(x.tick(1, 3, 0, 1), 2);
            nowIs(x, 2, 1, 0, 1, 1, 0, 2);
            due(x.fewest(2, 12), 0);
            due(x.fewest(3, 12), NONE);
            due(x.fewest(19, 4), NONE);
            due(x.fewest(19, 12), NONE);
            due(x.fewest(200, 12), NONE);
        });
        test(26, "TOP at most: 15 less TIRED by 64, 1 at least", () -> {
            // From 59 by a SPIN of 5 at most: 64, 69, 74, 79, 84, which 5 does not keep open.
            SpunLoop x = spun(spun(read(STIFF), 8, 2, 4, 6, 8, 10, 10), 5, 10);
            due(x.now(0), 59);
            for (int k = 0; k < 90 && x.now(3) < 640; k++) {
                long top = 15 - x.now(3) / 64;
                spun(x, 0, (int) Math.min(top, x.now(1) + 1));
            }
            nowIs(x, 59, 6);
            due(x.fewest(64, 12), 1);
            due(x.fewest(65, 12), 2);
            due(x.fewest(69, 12), 2);
            due(x.fewest(70, 12), 3);
            due(x.fewest(84, 12), 5);
            due(x.fewest(85, 12), NONE);
        });
        test(26, "by n (0 to 12) at most; NONE.", () -> {
            // Found by a search: ways that meet at the same SPIN and TIRED, of which the wider has to stay.
            SpunLoop x = read("rope 395 9 1;");
            int[] ups = {4, 4, 3, 3, 3, 4, 4, 1, 1, 2, 3, 3, 3, 1, 1, 2, 2, 2, 0};
            int[] lets = {2, 0, 9, 1, 9, 3, 3, 8, 3, 3, 0, 8, 0, 9, 2, 3, 2, 6, 7};
            for (int k = 0; k < ups.length; k++) {
                x.tick(0, ups[k], lets[k], (int) x.now(1) + ups[k] - 2);
            }
            nowIs(x, 84, 8, 0, 164, 19, 0, 0);
            due(x.fewest(187, 9), NONE);
            due(x.fewest(187, 10), 10);
            due(x.fewest(187, 12), 10);
        });
    }

    // ---------------------------------------------------------------- promise 27

    private static void showIs(String forms, int... row) {
        SpunLoop x = read("rope 40 0 0;" + forms);
        due(x.show(-1), row.length);
        for (int i = 0; i < row.length; i++) {
            due(x.show(i), row[i]);
        }
        due(x.show(row.length), NONE);
    }

    private static void shows() {
        test(27, "SHOW: how long (i = -1); its i-th FORM; NONE: not so many. BAD: i below -1; STATE: no WAY.", () -> {
            SpunLoop x = read("rope 40 0 0;form 0 0 0 0;");
            due(x.show(-2), BAD);
            due(x.show(LEAST), BAD);
            due(new SpunLoop().show(-2), BAD);
            due(new SpunLoop().show(-1), STATE);
            due(new SpunLoop().show(0), STATE);
            due(x.show(0), 0);
            due(x.show(1), NONE);
            due(x.show(MOST), NONE);
        });
        test(27, "how long (i = -1)", () -> {
            showIs("");
            showIs("form 1 2 3 4;", 0);
            showIs("form 0 0 0 0;".repeat(6), 0, 1, 2, 3, 4, 5);
        });
        test(27, "if SPINS of the one are within 2 of some of the other", () -> {
            showIs("form 1 2 0 0;form 4 9 0 0;", 0, 1);
            showIs("form 1 2 0 0;form 5 9 0 0;", 0);
            showIs("form 4 9 0 0;form 1 2 0 0;", 0, 1);
            showIs("form 5 9 0 0;form 1 2 0 0;", 0);
            // One within the other, and the outermost of both.
            showIs("form 0 15 0 0;form 7 7 0 0;", 0, 1);
            showIs("form 13 13 0 0;form 15 15 0 0;", 0, 1);
            showIs("form 12 12 0 0;form 15 15 0 0;", 0);
        });
        test(27, "SIZES within 20 of some.", () -> {
            showIs("form 0 0 3 4;form 0 0 24 30;", 0, 1);
            showIs("form 0 0 3 4;form 0 0 25 30;", 0);
            showIs("form 0 0 24 30;form 0 0 3 4;", 0, 1);
            showIs("form 0 0 25 30;form 0 0 3 4;", 0);
            showIs("form 0 0 0 200;form 0 0 100 100;", 0, 1);
            showIs("form 0 0 180 180;form 0 0 200 200;", 0, 1);
            showIs("form 0 0 179 179;form 0 0 200 200;", 0);
        });
        test(27, "from a FORM to another one it goes, if SPINS of the one are within 2 of some of the other, SIZES within 20", () -> {
            // Both at once.
            showIs("form 0 0 0 0;form 2 2 20 20;", 0, 1);
            showIs("form 0 0 0 0;form 3 3 20 20;", 0);
            showIs("form 0 0 0 0;form 2 2 21 21;", 0);
        });
    }

    private static void longestShows() {
        test(27, "The longest row of unlike FORMS, each going to the next; of several the first by numbers.", () -> {
            // The middle one goes with both others, which do not go with one another.
            showIs("form 8 8 0 0;form 6 6 0 0;form 4 4 0 0;", 0, 1, 2);
            showIs("form 6 6 0 0;form 8 8 0 0;form 4 4 0 0;", 1, 0, 2);
            showIs("form 4 4 0 0;form 8 8 0 0;form 6 6 0 0;", 0, 2, 1);
            // A row that seems good at first does not reach all; one FORM goes nowhere.
            showIs("form 4 4 0 0;form 2 2 0 0;form 6 6 0 0;form 8 8 0 0;form 0 0 0 0;form 15 15 0 0;", 3, 2, 0, 1, 4);
        });
        test(27, "of several the first by numbers.", () -> {
            // Two rows of two each; none goes to itself.
            showIs("form 15 15 0 0;form 0 0 0 0;form 13 13 0 0;form 2 2 0 0;", 0, 2);
            showIs("form 15 15 0 0;form 0 0 0 0;form 9 9 0 0;form 2 2 0 0;", 1, 3);
            showIs("form 0 0 0 0;form 5 5 0 0;form 10 10 0 0;", 0);
        });
        test(27, "row of unlike FORMS", () -> showIs("form 1 2 3 4;form 1 2 3 4;", 0, 1));
    }

    // ---------------------------------------------------------------- promise 28

    private static void learnIs(SpunLoop x, int from, int to, long tries, long rope) {
        due(x.learn(from, to, 0), tries);
        due(x.learn(from, to, 1), rope);
    }

    private static void learnsThatAreRefused() {
        test(28, "the first ROPE (1; NONE: no try, or it can't). BAD; STATE: no WAY.", () -> {
            SpunLoop x = read(STIFF);
            int[] outside = {-1, 101, LEAST, MOST};
            for (int bad : outside) {
                due(x.learn(bad, 0, 0), BAD);
                due(x.learn(0, bad, 0), BAD);
                due(new SpunLoop().learn(bad, 0, 0), BAD);
                due(new SpunLoop().learn(0, bad, 0), BAD);
            }
            due(x.learn(0, 0, -1), BAD);
            due(x.learn(0, 0, 2), BAD);
            due(new SpunLoop().learn(0, 0, 2), BAD);
            due(new SpunLoop().learn(0, 0, 0), STATE);
            due(new SpunLoop().learn(100, 100, 1), STATE);
        });
        test(28, "A CHILD has a SKILL (0 to 100).", () -> {
            SpunLoop x = read("rope 40 0 0;");
            learnIs(x, 0, 0, 0, NONE);
            learnIs(x, 100, 100, 0, NONE);
            learnIs(x, 100, 0, 0, NONE);
            learnIs(x, 0, 100, 28, 0);
        });
    }

    private static void learns() {
        test(28, "SKILL becomes by 10 less d more", () -> {
            // d is 0 for the first rope at a SKILL of 0 to 9, 1 at 10 to 19; for the second the other way round.
            SpunLoop x = read("rope 49 0 0;rope 50 0 0;");
            learnIs(x, 0, 10, 1, 0);
            learnIs(x, 0, 11, 2, 0);
            learnIs(x, 9, 19, 1, 0);
            learnIs(x, 10, 20, 1, 1);
            learnIs(x, 10, 19, 1, 0);
            learnIs(x, 19, 29, 1, 1);
            learnIs(x, 20, 29, 1, 1);
            learnIs(x, 20, 28, 1, 0);
        });
        test(28, "where d is the size of (SKILL by 10, less STIFF, less LENGTH by 50), if that is above 0", () -> {
            // STIFF 2 and LENGTH 400 are 10: d is 10 up to a SKILL of 9, and 9 from 10 on.
            SpunLoop x = read("rope 400 2 0;");
            learnIs(x, 9, 10, NONE, NONE);
            learnIs(x, 10, 11, 1, 0);
            learnIs(x, 10, 12, 2, 0);
            // 17 at a SKILL of 0 to 79 teaches nothing, nor does it take any away.
            x = read("rope 400 9 0;");
            learnIs(x, 0, 1, NONE, NONE);
            learnIs(x, 79, 80, NONE, NONE);
            learnIs(x, 80, 81, 1, 0);
            // LENGTH 99 is 1, 100 is 2.
            x = read("rope 99 0 0;rope 100 0 0;");
            learnIs(x, 0, 9, 1, 0);
            learnIs(x, 20, 30, 1, 1);
        });
        test(28, "100 at most.", () -> {
            SpunLoop x = read("rope 400 2 0;");
            learnIs(x, 99, 100, 1, 0);
            learnIs(x, 91, 100, 1, 0);
            learnIs(x, 90, 100, 2, 0);
        });
        test(28, "by 30 at most; of the fewest the least first ROPE; NONE.", () -> {
            // As slow as a rope can teach: 1 more up to 10, 2 more up to 20, and so on; 30 tries are the most of all.
            SpunLoop x = read("rope 400 1 0;");
            learnIs(x, 0, 10, 10, 0);
            learnIs(x, 0, 93, 29, 0);
            learnIs(x, 0, 94, 30, 0);
            learnIs(x, 0, 100, 30, 0);
        });
        test(28, "of the fewest the least first ROPE", () -> {
            learnIs(read("rope 40 0 0;rope 40 0 0;rope 40 0 0;"), 0, 10, 1, 0);
            learnIs(read("rope 400 9 0;rope 40 0 0;rope 40 0 0;"), 0, 10, 1, 1);
            learnIs(read("rope 400 9 0;rope 400 9 0;rope 40 0 0;"), 0, 10, 1, 2);
            // What gives more at first need not be first: both ways take two tries.
            learnIs(read("rope 50 0 0;rope 40 0 0;"), 0, 19, 2, 0);
        });
        test(28, "each with any ROPE", () -> {
            // The first teaches a beginner, the second one who can: 28 tries by the first alone, 14 by both.
            learnIs(read("rope 40 0 0;rope 400 2 0;"), 0, 100, 14, 0);
            learnIs(read("rope 400 2 0;rope 40 0 0;"), 0, 100, 14, 1);
            learnIs(read("rope 40 0 0;rope 400 2 0;"), 86, 100, 2, 1);
        });
        test(28, "LEARN: the fewest tries from a SKILL to another one or more", () -> {
            SpunLoop x = read("rope 40 0 0;");
            learnIs(x, 50, 50, 0, NONE);
            learnIs(x, 50, 49, 0, NONE);
            learnIs(x, 50, 51, 1, 0);
            learnIs(x, 50, 55, 1, 0);
            learnIs(x, 50, 56, 2, 0);
        });
    }

    // ---------------------------------------------------------------- promise 29

    private static void filmsThatAreRefused() {
        test(29, "BAD: ROW, n; STATE: no WAY; NULL; PLACE.", () -> {
            SpunLoop x = read(STIFF);
            x.row(0, 2, 40);
            int[] rows = {-1, 8, LEAST, MOST};
            for (int row : rows) {
                due(x.film(row, 0, 1), BAD);
                due(new SpunLoop().film(row, 0, 1), BAD);
            }
            int[] lengths = {0, 21, -1, LEAST, MOST};
            for (int n : lengths) {
                due(x.film(0, 0, n), BAD);
                due(new SpunLoop().film(0, 0, n), BAD);
            }
        });
        test(29, "STATE: no WAY; NULL; PLACE.", () -> {
            SpunLoop x = new SpunLoop();
            due(x.film(0, 0, 1), STATE);
            due(x.film(0, -1, 1), STATE);
            x.row(0, 2, 1);
            due(x.film(0, 0, 1), STATE);
            due(x.film(0, 9, 1), STATE);
        });
        test(29, "NULL; PLACE.", () -> {
            SpunLoop x = read(STIFF);
            due(x.film(0, 0, 1), NULL);
            due(x.film(7, -1, 20), NULL);
            x.row(0, 2, 3);
            int[][] outside = {{-1, 1}, {3, 1}, {2, 2}, {0, 4}, {0, 20}, {LEAST, 1}, {MOST, 1}, {MOST, 20}};
            for (int[] bad : outside) {
                due(x.film(0, bad[0], bad[1]), PLACE);
            }
            due(x.film(0, 2, 1), 0);
            due(x.film(0, 0, 3), 0);
            x.row(1, 2, 0);
            due(x.film(1, 0, 1), PLACE);
        });
        test(29, "What is refused, or found, changes nothing but status().", () -> {
            refused(x -> x.film(8, 0, 1), BAD);
            refused(x -> x.film(0, 0, 21), BAD);
            refused(x -> x.film(2, 0, 1), NULL);
            refused(x -> x.film(0, 4, 1), PLACE);
        });
    }

    private static void films() {
        test(29, "FILM of n ITEMS (1 to 20) of a ROW from i on", () -> {
            // 20 SIZES by UP 3, LET 8, the last 20 of 40; by one ITEM changed it is no hand's.
            SpunLoop x = read(STIFF);
            x.row(0, 2, 40);
            for (int k = 0; k < 20; k++) {
                x.tick(0, 3, 8, (int) Math.min(x.now(1) + 1, 15 - x.now(3) / 64));
                x.set(0, 20 + k, (int) x.now(0));
            }
            due(x.now(2), 0);
            due(x.film(0, 20, 20), 256);
            due(x.film(0, 20, 1), 448);
            due(x.film(0, 20, 2), 256);
            due(x.film(0, 21, 19), 0);
            x.set(0, 39, (int) x.now(0) + 1);
            due(x.film(0, 20, 20), 0);
            due(x.film(0, 20, 19), 256);
        });
        test(29, "by whose TICKS of spin (TURN as SPIN will be)", () -> {
            // A hand that did not turn with it would kink it by the eleventh TICK: 1 to 11 are 66, LIMIT is 60. SPINS
            // are 1 to 14, and 14 twice more; then the arm is TIRED by 133.
            SpunLoop x = read(STIFF);
            x.row(0, 2, 20);
            int[] sizes = {10, 12, 15, 19, 24, 30, 37, 45, 54, 64, 75, 87, 100, 114, 128, 142, 155};
            for (int k = 0; k < sizes.length; k++) {
                x.set(0, k, sizes[k]);
            }
            due(x.film(0, 0, 13), 256);
            due(x.film(0, 0, 17), 256);
        });
        test(29, "HANDS (bits: 0, 3, 6 for UP 1, 2, 3, and 0, 1, 2 more for LET 0, 4, 8)", () -> {
            // SPIN 0, which UP 1 and 2 leave, never opens a loop: all six are alike. UP 3 tells them apart.
            SpunLoop x = read(STIFF);
            int[][] films = {{5, 0, 63}, {10, 10, 64}, {10, 11, 128}, {10, 12, 256}, {10, 13, 0}, {5, 5, 0}, {20, 20, 0}};
            x.row(0, 0, 2);
            for (int[] film : films) {
                x.set(0, 0, film[0]);
                x.set(0, 1, film[1]);
                due(x.film(0, 0, 2), film[2]);
            }
        });
        test(29, "(a TICK that cannot be taken leaves the SIZE)", () -> {
            SpunLoop x = read("rope 40 0 1;rope 400 9 0;");
            x.row(0, 2, 20);
            due(x.film(0, 0, 1), 511);
            due(x.film(0, 0, 20), 511);
            x.set(0, 19, 1);
            due(x.film(0, 0, 20), 0);
            due(x.film(0, 0, 19), 511);
        });
        test(29, "from the first LOOP with the ROPE TAKEN", () -> {
            // THE LIVE LOOP is another one, and stays.
            SpunLoop x = read("rope 40 0 1;rope 400 9 0;");
            x.row(0, 2, 1);
            due(x.film(0, 0, 1), 511);
            x.take(1, NONE);
            spun(x, 0, 2, 4);
            due(x.film(0, 0, 1), 0);
            x.set(0, 0, 5);
            due(x.film(0, 0, 1), 63);
            nowIs(x, 15, 4, 0, 6, 2, 0, 0);
        });
        test(29, "SIZES are these", () -> {
            // As the ROW keeps them: a byte of 200 is -56, which no SIZE is; bytes above it come back as they are.
            SpunLoop x = read(STIFF);
            x.row(0, 0, 1);
            x.set(0, 0, 256 + 10);
            due(x.film(0, 0, 1), 448);
            x.set(0, 0, -5);
            due(x.film(0, 0, 1), 0);
        });
    }

    // ---------------------------------------------------------------- promises 30, 31

    private static void images() {
        test(30, "An IMAGE is kept (1). BAD; STATE: no WAY.", () -> {
            SpunLoop x = read(STIFF);
            int[] outside = {-1, 2, LEAST, MOST};
            for (int k : outside) {
                due(x.image(k), BAD);
                due(new SpunLoop().image(k), BAD);
            }
            due(x.count(8), 0);
            due(new SpunLoop().image(0), STATE);
            due(new SpunLoop().image(1), STATE);
            SpunLoop none = new SpunLoop();
            none.image(0);
            due(none.count(8), 0);
        });
        test(30, "An IMAGE (0, 1)", () -> {
            SpunLoop x = read(STIFF);
            due(x.image(1), 1);
            due(x.count(8), 1);
            due(x.restore(0), STATE);
            x.close();
            due(x.image(0), 1);
            due(x.count(8), 2);
            x.restore(1);
            due(x.now(4), 0);
            x.restore(0);
            due(x.now(4), 1);
        });
        test(30, "An IMAGE is kept", () -> {
            // The later one of a number stands in place of the one before; what goes on does not change it.
            SpunLoop x = read(STIFF);
            x.image(0);
            x.close();
            x.image(0);
            due(x.count(8), 1);
            x.close();
            x.restore(0);
            due(x.now(4), 1);
            x.close();
            x.close();
            x.restore(0);
            due(x.now(4), 1);
        });
    }

    private static void restores() {
        test(31, "All is as an IMAGE kept it: 1. BAD; STATE: none was kept.", () -> {
            int[] outside = {-1, 2, LEAST, MOST};
            for (int k : outside) {
                due(read(STIFF).restore(k), BAD);
                due(new SpunLoop().restore(k), BAD);
            }
            due(read(STIFF).restore(0), STATE);
            due(read(STIFF).restore(1), STATE);
            due(new SpunLoop().restore(0), STATE);
        });
        test(31, "keeps THE LIVE LOOP, ROPE, HORSE, the WAY.", () -> {
            SpunLoop x = read("rope 40 0 1;rope 400 9 0;horse 0 0 0;horse 20 20 1;beast 60 0 30 1 0;form 1 1 1 1;"
                + "rule 99 5 7 2;" + "spin 5 4 8 6;flat 0;");
            x.take(1, 1);
            spun(x, 8, 2, 4, 6, 8, 10);
            due(x.image(0), 1);
            feed(x, "rope 60 0 0;");
            due(x.way(), 0);
            due(x.restore(0), 1);
            // THE LIVE LOOP, with WHY of its latest TICK.
            nowIs(x, 43, 10, 0, 30, 5, 0, 0);
            // ROPE 1, HORSE 1: NEED 2; D is 20, of SPINS 9, 10, 11 two reach it by a t of 2.
            due(x.need(0), 2);
            due(x.odds(0, 0, 0), 2);
            due(x.odds(0, 0, 1), 3);
            // The WAY, with its rule.
            long[] counts = {2, 2, 1, 1, 2, 1};
            for (int what = 1; what <= 6; what++) {
                due(x.count(what), counts[what - 1]);
            }
            due(x.act(0, 0), 5);
            due(x.score(), 5);
        });
        test(31, "keeps THE LIVE LOOP, ROPE, HORSE", () -> {
            // All numbers of a rope: LENGTH 300, STIFF 4 (LIMIT 40), WET.
            SpunLoop x = read("rope 40 8 0;rope 300 4 1;");
            x.take(1, NONE);
            x.image(0);
            x.take(0, NONE);
            due(x.need(0), 2);
            x.restore(0);
            due(x.need(0), 5);
            due(x.piece(29), 0);
            due(x.piece(30), BAD);
            due(x.out(15, 2), 0);
            due(x.out(15, 3), 2);
        });
        test(31, "All is as an IMAGE kept it", () -> {
            // A loop that was KINKED is so again, and its WHY is 4.
            SpunLoop x = read(SOFT);
            for (int k = 0; k < 5; k++) {
                x.tick(0, 4, 0, 0);
            }
            x.image(1);
            x.close();
            due(x.now(6), NONE);
            due(x.restore(1), 1);
            nowIs(x, 5, 10, 30, 30, 5, 1, 4);
            due(x.tick(0, 2, 0, 0), STATE);
        });
        test(31, "An IMAGE (0, 1) keeps THE LIVE LOOP, ROPE, HORSE, the WAY.", () -> {
            // And nothing else: ROWS, the tape, the latest FAULT, status(), THE TRACE, the other image stay.
            SpunLoop x = full();
            due(x.count(8), 1);
            x.way();
            due(x.fault(), 1);
            feed(x, "abc");
            x.image(0);
            x.row(5, 0, 7);
            x.as(0, 4);
            x.ask(0, 0);
            due(x.restore(1), 1);
            due(x.count(0), 3);
            due(x.count(7), 3);
            due(x.count(8), 2);
            due(x.fault(), 1);
            due(x.status(), 3);
            due(x.trace(0), 11);
            due(x.drop(5), 7);
        });
        test(31, "What is refused, or found, changes nothing but status().", () -> {
            refused(x -> x.restore(2), BAD);
            refused(x -> x.restore(0), STATE);
            refused(x -> x.image(2), BAD);
        });
    }
}
