/** Boundaries of promises 1 to 5 and 37: a new object, rows, what was found. */
final class RowEdges extends Edges {
    /** By this rope a film of one ITEM answers ZERO if it is 0, FIVE if it is 5, else 0. */
    private static final String SEEING = "rope 400 4 0;";
    private static final long ZERO = 63;
    private static final long FIVE = 448;

    @Override
    void all() {
        newObjects();
        rows();
        sets();
        copies();
        overlaps();
        drops();
        statuses();
        statusesThatStay();
    }

    private static void itemsAre(SpunLoop x, int row, long... seen) {
        for (int i = 0; i < seen.length; i++) {
            due(x.film(row, i, 1), seen[i]);
        }
    }

    private static void newObjects() {
        test(1, "No WAY.", () -> {
            SpunLoop x = new SpunLoop();
            due(x.now(0), STATE);
            due(x.close(), STATE);
            due(x.score(), STATE);
            due(x.act(0, 0), BAD);
            due(x.take(0, NONE), BAD);
            for (int what = 1; what <= 6; what++) {
                due(x.count(what), 0);
            }
        });
        test(1, "ROWS 0 .. 7 are missing (at first)", () -> {
            SpunLoop x = new SpunLoop();
            for (int row = 0; row <= 7; row++) {
                due(x.drop(row), NULL);
            }
            due(x.count(0), 0);
        });
        test(1, "NONE = -1000000", () -> due(SpunLoop.NONE, NONE));
        test(1, "NOT = -9000000000000000000L", () -> due(SpunLoop.NOT, NOT));
        test(1, "An object is used for at most 512 calls after it has been made", () -> {
            SpunLoop x = read(SOFT);
            // Two calls fed the text, one read it; the 512th of all is answered as the first would be.
            for (int k = 1; k <= 512 - 3; k++) {
                due(x.close(), k);
            }
        });
        test(1, "what later calls answer is free", () -> {
            SpunLoop x = read(SOFT);
            for (int k = 1; k <= 2000; k++) {
                x.close();
            }
            // Free, but an answer all the same: nothing is thrown.
            due(x.now(99), BAD);
        });
    }

    private static void rows() {
        test(2, "BAD: ROW, LANE, n above 40; SIZE.", () -> {
            SpunLoop x = new SpunLoop();
            due(x.row(-1, 0, 1), BAD);
            due(x.row(8, 0, 1), BAD);
            due(x.row(LEAST, 0, 1), BAD);
            due(x.row(MOST, 0, 1), BAD);
            due(x.count(0), 0);
        });
        test(2, "ROWS 0 .. 7", () -> {
            SpunLoop x = new SpunLoop();
            due(x.row(0, 0, 3), 3);
            due(x.row(7, 0, 4), 4);
            due(x.count(0), 2);
            due(x.drop(0), 3);
            due(x.drop(7), 4);
        });
        test(2, "a LANE (0 bytes, 1 shorts, 2 ints)", () -> {
            SpunLoop x = new SpunLoop();
            due(x.row(0, -1, 1), BAD);
            due(x.row(0, 3, 1), BAD);
            due(x.row(0, LEAST, 1), BAD);
            due(x.row(0, MOST, 1), BAD);
            due(x.count(0), 0);
            long[] most = {127, 32767, MOST};
            for (int lane = 0; lane <= 2; lane++) {
                due(x.row(lane, lane, 1), 1);
                due(x.set(lane, 0, (int) most[lane]), most[lane]);
            }
        });
        test(2, "n above 40", () -> {
            SpunLoop x = new SpunLoop();
            due(x.row(0, 0, 41), BAD);
            due(x.row(0, 0, MOST), BAD);
            due(x.count(0), 0);
            due(x.row(0, 0, 40), 40);
            due(x.set(0, 39, 1), 1);
            due(x.set(0, 40, 1), PLACE);
        });
        test(2, "0 to 40 ITEMS", () -> {
            SpunLoop x = new SpunLoop();
            due(x.row(0, 0, 0), 0);
            due(x.count(0), 1);
            due(x.set(0, 0, 1), PLACE);
            due(x.drop(0), 0);
        });
        test(2, "4 SIZE (fewer than none)", () -> {
            SpunLoop x = new SpunLoop();
            due(x.row(0, 0, -1), SIZE);
            due(x.row(0, 0, LEAST), SIZE);
            due(x.count(0), 0);
        });
        test(2, "Refusals are answers, the first of these that fits, but as told", () -> {
            SpunLoop x = new SpunLoop();
            due(x.row(8, 0, -1), BAD);
            due(x.row(-1, 0, -1), BAD);
            due(x.row(0, 3, -1), BAD);
            due(x.row(0, -1, -1), BAD);
        });
        test(2, "0 at first.", () -> {
            SpunLoop x = read(SEEING);
            x.row(3, 2, 40);
            for (int i = 0; i < 40; i++) {
                due(x.film(3, i, 1), ZERO);
            }
        });
        test(2, "in place of what is there", () -> {
            SpunLoop x = read(SEEING);
            x.row(0, 2, 40);
            x.set(0, 0, 5);
            x.set(0, 39, 5);
            due(x.film(0, 39, 1), FIVE);
            due(x.row(0, 0, 2), 2);
            itemsAre(x, 0, ZERO, ZERO, PLACE);
            // Its LANE is another one, too.
            due(x.set(0, 0, 128), -128);
            due(x.row(0, 2, 40), 40);
            due(x.film(0, 39, 1), ZERO);
            due(x.count(0), 1);
        });
        test(2, "What is refused, or found, changes nothing but status().", () -> {
            refused(x -> x.row(0, 0, 41), BAD);
            refused(x -> x.row(0, 3, 1), BAD);
            refused(x -> x.row(8, 0, 1), BAD);
            refused(x -> x.row(0, 0, -1), SIZE);
        });
    }

    private static void sets() {
        test(3, "ITEM i becomes v, its lowest bits, as many as the LANE has: what it is then.", () -> {
            SpunLoop x = new SpunLoop();
            x.row(0, 0, 1);
            int[] bytes = {127, 127, 128, -128, 255, -1, 256, 0, -128, -128, -129, 127, MOST, -1, LEAST, 0};
            for (int k = 0; k < bytes.length; k += 2) {
                due(x.set(0, 0, bytes[k]), bytes[k + 1]);
            }
        });
        test(3, "its lowest bits, as many as the LANE has", () -> {
            SpunLoop x = new SpunLoop();
            x.row(0, 1, 1);
            int[] shorts = {32767, 32767, 32768, -32768, 65535, -1, 65536, 0, -32768, -32768, -32769, 32767, MOST, -1,
                LEAST, 0};
            for (int k = 0; k < shorts.length; k += 2) {
                due(x.set(0, 0, shorts[k]), shorts[k + 1]);
            }
        });
        test(3, "2 ints", () -> {
            SpunLoop x = new SpunLoop();
            x.row(0, 2, 1);
            int[] ints = {MOST, LEAST, -1, 0, 65536, 32768};
            for (int v : ints) {
                due(x.set(0, 0, v), v);
            }
        });
        test(3, "ITEM i becomes v", () -> {
            SpunLoop x = read(SEEING);
            x.row(0, 0, 3);
            // What is kept are the lowest bits, not what was told.
            due(x.set(0, 1, 256 + 5), 5);
            itemsAre(x, 0, ZERO, FIVE, ZERO);
            due(x.set(0, 2, 5), 5);
            due(x.set(0, 1, 512), 0);
            itemsAre(x, 0, ZERO, ZERO, FIVE);
        });
        test(3, "BAD: ROW; NULL; PLACE.", () -> {
            SpunLoop x = new SpunLoop();
            due(x.set(-1, 0, 0), BAD);
            due(x.set(8, 0, 0), BAD);
            due(x.set(LEAST, 0, 0), BAD);
            due(x.set(MOST, 0, 0), BAD);
        });
        test(3, "1 NULL (a ROW that is missing)", () -> {
            SpunLoop x = new SpunLoop();
            due(x.set(0, 0, 0), NULL);
            due(x.set(7, 0, 0), NULL);
            // Ahead of PLACE.
            due(x.set(0, -1, 0), NULL);
            due(x.set(0, MOST, 0), NULL);
        });
        test(3, "2 PLACE (no such place of a ROW)", () -> {
            SpunLoop x = new SpunLoop();
            x.row(0, 0, 3);
            due(x.set(0, -1, 7), PLACE);
            due(x.set(0, 3, 7), PLACE);
            due(x.set(0, LEAST, 7), PLACE);
            due(x.set(0, MOST, 7), PLACE);
            due(x.set(0, 0, 7), 7);
            due(x.set(0, 2, 7), 7);
        });
        test(3, "What is refused, or found, changes nothing but status().", () -> {
            refused(x -> x.set(8, 1, 0), BAD);
            refused(x -> x.set(2, 1, 0), NULL);
            refused(x -> x.set(0, 4, 5), PLACE);
            refused(x -> x.set(0, -1, 5), PLACE);
        });
    }

    private static SpunLoop twoRows() {
        SpunLoop x = read(SEEING);
        x.row(0, 2, 4);
        x.row(1, 2, 3);
        x.row(2, 1, 4);
        x.set(0, 0, 5);
        x.set(0, 3, 5);
        return x;
    }

    private static void copies() {
        test(4, "n ITEMS of a from i on come to b from j on", () -> {
            SpunLoop x = twoRows();
            due(x.copy(0, 2, 1, 1, 2), 2);
            itemsAre(x, 1, ZERO, ZERO, FIVE);
            itemsAre(x, 0, FIVE, ZERO, ZERO, FIVE);
            due(x.copy(0, 0, 1, 0, 3), 3);
            itemsAre(x, 1, FIVE, ZERO, ZERO);
        });
        test(4, "BAD: ROWS; NULL; STORE; PLACE (i, j, n below 0, or beyond an end).", () -> {
            SpunLoop x = twoRows();
            due(x.copy(-1, 0, 0, 0, 1), BAD);
            due(x.copy(8, 0, 0, 0, 1), BAD);
            due(x.copy(0, 0, -1, 0, 1), BAD);
            due(x.copy(0, 0, 8, 0, 1), BAD);
            due(x.copy(LEAST, 0, MOST, 0, 1), BAD);
            // Ahead of NULL: row 7 is missing.
            due(x.copy(7, 0, 8, 0, 1), BAD);
            due(x.copy(8, 0, 7, 0, 1), BAD);
        });
        test(4, "1 NULL (a ROW that is missing)", () -> {
            SpunLoop x = twoRows();
            due(x.copy(7, 0, 0, 0, 1), NULL);
            due(x.copy(0, 0, 7, 0, 1), NULL);
            due(x.copy(7, 0, 7, 0, 0), NULL);
            // Ahead of STORE and PLACE.
            due(x.copy(2, 0, 7, 0, 1), NULL);
            due(x.copy(7, -1, 0, 0, 1), NULL);
            due(x.copy(0, 0, 7, 0, -1), NULL);
        });
        test(4, "5 STORE (ROWS of two LANES)", () -> {
            SpunLoop x = twoRows();
            due(x.copy(0, 0, 2, 0, 1), STORE);
            due(x.copy(2, 0, 0, 0, 1), STORE);
            due(x.copy(0, 0, 2, 0, 0), STORE);
            x.row(3, 0, 4);
            due(x.copy(3, 0, 2, 0, 1), STORE);
            // Ahead of PLACE.
            due(x.copy(0, -1, 2, 0, 1), STORE);
            due(x.copy(0, 0, 2, 0, 99), STORE);
        });
        test(4, "PLACE (i, j, n below 0", () -> {
            SpunLoop x = twoRows();
            due(x.copy(0, -1, 1, 0, 1), PLACE);
            due(x.copy(0, 0, 1, -1, 1), PLACE);
            due(x.copy(0, 0, 1, 0, -1), PLACE);
            due(x.copy(0, 2, 1, 2, -1), PLACE);
            due(x.copy(0, -1, 1, 0, 0), PLACE);
            due(x.copy(0, 0, 1, -1, 0), PLACE);
            due(x.copy(0, LEAST, 1, 0, 1), PLACE);
            due(x.copy(0, 0, 1, LEAST, 1), PLACE);
            due(x.copy(0, 0, 1, 0, LEAST), PLACE);
        });
        test(4, "or beyond an end).", () -> {
            SpunLoop x = twoRows();
            // Row 0 has 4 ITEMS, row 1 has 3.
            due(x.copy(0, 2, 1, 0, 3), PLACE);
            due(x.copy(0, 4, 1, 0, 1), PLACE);
            due(x.copy(0, 0, 1, 1, 3), PLACE);
            due(x.copy(0, 0, 1, 0, 4), PLACE);
            due(x.copy(1, 0, 0, 0, 4), PLACE);
            due(x.copy(0, 5, 1, 0, 0), PLACE);
            due(x.copy(0, 0, 1, 4, 0), PLACE);
            due(x.copy(0, 1, 1, 0, 3), 3);
        });
        test(4, "beyond an end", () -> {
            SpunLoop x = twoRows();
            // Sums of these would wrap around to something small.
            due(x.copy(0, MOST, 1, 0, 1), PLACE);
            due(x.copy(0, 1, 1, 0, MOST), PLACE);
            due(x.copy(0, 0, 1, MOST, 1), PLACE);
            due(x.copy(0, MOST, 1, MOST, MOST), PLACE);
            due(x.copy(0, MOST, 1, MOST, 2), PLACE);
        });
        test(4, "n ITEMS of a from i on come to b from j on, as they were ahead: n.", () -> {
            SpunLoop x = twoRows();
            // None come: also from an end and to an end, and between ROWS without ITEMS.
            due(x.copy(0, 0, 1, 0, 0), 0);
            due(x.copy(0, 4, 1, 3, 0), 0);
            x.row(3, 2, 0);
            due(x.copy(3, 0, 3, 0, 0), 0);
            due(x.copy(3, 0, 0, 4, 0), 0);
            itemsAre(x, 0, FIVE, ZERO, ZERO, FIVE);
        });
        test(4, "What is refused, or found, changes nothing but status().", () -> {
            refused(x -> x.copy(0, 0, 8, 0, 1), BAD);
            refused(x -> x.copy(0, 0, 2, 0, 1), NULL);
            refused(x -> x.copy(1, 0, 0, 0, 2), STORE);
            refused(x -> x.copy(0, 1, 0, 2, 3), PLACE);
        });
    }

    private static void overlaps() {
        test(4, "as they were ahead", () -> {
            SpunLoop x = twoRows();
            due(x.copy(0, 0, 0, 1, 3), 3);
            itemsAre(x, 0, FIVE, FIVE, ZERO, ZERO);
            due(x.copy(0, 1, 0, 0, 3), 3);
            itemsAre(x, 0, FIVE, ZERO, ZERO, ZERO);
            due(x.copy(0, 0, 0, 0, 4), 4);
            itemsAre(x, 0, FIVE, ZERO, ZERO, ZERO);
        });
        test(4, "0 to 40 ITEMS", () -> {
            SpunLoop x = read(SEEING);
            x.row(0, 2, 40);
            x.row(7, 2, 40);
            x.set(0, 0, 5);
            x.set(0, 39, 5);
            due(x.copy(0, 0, 7, 0, 40), 40);
            due(x.film(7, 0, 1), FIVE);
            due(x.film(7, 39, 1), FIVE);
            due(x.film(7, 38, 1), ZERO);
            due(x.copy(0, 0, 7, 0, 41), PLACE);
        });
    }

    private static void drops() {
        test(5, "A ROW is missing from now on", () -> {
            SpunLoop x = new SpunLoop();
            x.row(0, 0, 3);
            due(x.drop(0), 3);
            due(x.count(0), 0);
            due(x.set(0, 0, 0), NULL);
            due(x.drop(0), NULL);
        });
        test(5, "how many ITEMS it had. BAD; NULL.", () -> {
            SpunLoop x = new SpunLoop();
            x.row(0, 0, 0);
            x.row(7, 2, 40);
            due(x.drop(0), 0);
            due(x.drop(7), 40);
            due(x.drop(1), NULL);
        });
        test(5, "BAD (a number is not as told; there is no such thing)", () -> {
            SpunLoop x = new SpunLoop();
            due(x.drop(-1), BAD);
            due(x.drop(8), BAD);
            due(x.drop(LEAST), BAD);
            due(x.drop(MOST), BAD);
        });
        test(5, "What is refused, or found, changes nothing but status().", () -> {
            refused(x -> x.drop(8), BAD);
            refused(x -> x.drop(2), NULL);
        });
    }

    private static void statuses() {
        test(37, "0: it had none, or there was none.", () -> {
            SpunLoop x = new SpunLoop();
            due(x.status(), 0);
            x.feed(0, 9);
            x.row(8, 0, 0);
            x.film(0, 0, 1);
            x.as(0, 0);
            due(x.status(), 0);
        });
        test(37, "the number of its FINDING", () -> {
            SpunLoop x = full();
            due(x.set(7, 0, 0), NULL);
            due(x.status(), 1);
            due(x.set(0, 4, 0), PLACE);
            due(x.status(), 2);
            due(x.as(0, 4), KIND);
            due(x.status(), 3);
            due(x.row(0, 0, -1), SIZE);
            due(x.status(), 4);
            due(x.copy(0, 0, 1, 0, 1), STORE);
            due(x.status(), 5);
            due(x.status(), 5);
        });
        test(37, "then FINDINGS, of several the first in time: NOT less 10 less 1 NULL (a ROW that is missing)", () -> {
            SpunLoop x = full();
            // A ROW that is missing and a place that is none; two LANES and a place that is none.
            due(x.set(7, 99, 0), -9000000000000000011L);
            due(x.status(), 1);
            due(x.film(7, 99, 1), -9000000000000000011L);
            due(x.copy(1, 99, 7, 99, 99), -9000000000000000011L);
            due(x.copy(0, 99, 1, 99, 99), -9000000000000000015L);
            due(x.status(), 5);
            due(x.set(0, 99, 0), -9000000000000000012L);
            due(x.as(0, 6), -9000000000000000013L);
            due(x.row(0, 0, -1), -9000000000000000014L);
        });
        test(37, "BAD, STATE, FULL are NOT less 1, 2, 3.", () -> {
            SpunLoop x = new SpunLoop();
            due(x.row(8, 0, 0), -9000000000000000001L);
            due(x.close(), -9000000000000000002L);
            feed(x, " ".repeat(600));
            due(x.feed(32, 1), -9000000000000000003L);
            due(x.status(), 0);
        });
        test(37, "Of the latest call with a ROW, or as()", () -> {
            // Each of the six sets it, to a FINDING and back to 0.
            SpunLoop x = full();
            due(x.row(2, 2, 0), 0);
            due(x.status(), 0);
            due(x.drop(3), NULL);
            due(x.status(), 1);
            due(x.set(0, 0, 0), 0);
            due(x.status(), 0);
            due(x.set(2, 0, 0), PLACE);
            due(x.status(), 2);
            due(x.copy(0, 0, 0, 0, 1), 1);
            due(x.status(), 0);
            due(x.film(0, 4, 1), PLACE);
            due(x.status(), 2);
            due(x.film(0, 3, 1), 0);
            due(x.status(), 0);
            due(x.film(7, 0, 1), NULL);
            due(x.status(), 1);
            due(x.drop(0), 4);
            due(x.status(), 0);
            due(x.as(0, 3), KIND);
            due(x.status(), 3);
            due(x.as(0, 2), 0);
            due(x.status(), 0);
        });
    }

    private static void statusesThatStay() {
        test(37, "that was not BAD, STATE, FULL", () -> {
            SpunLoop x = new SpunLoop();
            x.row(0, 0, -1);
            due(x.row(8, 0, 0), BAD);
            due(x.set(8, 0, 0), BAD);
            due(x.copy(8, 0, 0, 0, 0), BAD);
            due(x.drop(8), BAD);
            due(x.film(0, 0, 0), BAD);
            due(x.as(0, 0), BAD);
            due(x.status(), 4);
            due(x.film(0, 0, 1), STATE);
            due(x.status(), 4);
            for (int k = 0; k < 75; k++) {
                x.feed(0, 8);
            }
            due(x.feed(0, 1), FULL);
            due(x.status(), 4);
        });
        test(37, "the latest call with a ROW", () -> {
            // Calls without a ROW leave it, whether they are well or refused.
            SpunLoop x = full();
            x.row(0, 0, -1);
            x.way();
            x.tick(0, 2, 0, 9);
            x.hurl(0, 0);
            x.hurl(0, 9);
            x.close();
            x.take(0, 0);
            x.kind(0);
            x.kind(99);
            x.ask(0, 0);
            x.image(0);
            x.restore(0);
            x.moves(1, 0);
            x.fewest(30, 3);
            x.show(0);
            x.learn(0, 9, 0);
            x.count(0);
            x.trace(0);
            x.fault();
            due(x.status(), 4);
        });
    }
}
