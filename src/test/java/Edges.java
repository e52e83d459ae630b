import java.io.IOException;
import java.nio.file.Files;
import java.nio.file.Path;
import java.util.ArrayList;
import java.util.List;

/**
 * What all tests of boundaries share. A test belongs to a promise and to a sentence of the document,
 * whose words it bears, so that a failure tells which sentence is broken.
 */
abstract class Edges {
    static final int NONE = -1000000;
    static final long NOT = -9000000000000000000L;
    static final long BAD = NOT - 1;
    static final long STATE = NOT - 2;
    static final long FULL = NOT - 3;
    static final long NULL = NOT - 11;
    static final long PLACE = NOT - 12;
    static final long KIND = NOT - 13;
    static final long SIZE = NOT - 14;
    static final long STORE = NOT - 15;
    static final int LEAST = Integer.MIN_VALUE;
    static final int MOST = Integer.MAX_VALUE;

    /** NEED is 2 below a SIZE of 20 and 1 more for each 20; LIMIT 60, ROOM 200. */
    static final String STIFF = "rope 400 9 0;";
    /** NEED is 4 below a SIZE of 20 and 1 more for each 20; LIMIT 24, ROOM 200. */
    static final String SOFT = "rope 400 0 0;";
    /** NEED of the first loop is 7, and it is shut by its first TICK; LIMIT 24, ROOM 20. */
    static final String WET = "rope 40 0 1;";

    private static final int PROMISES = 37;
    private static final int[] TESTS = new int[PROMISES + 1];
    private static final List<String> SENTENCES = new ArrayList<>();
    private static int promise;
    private static String sentence;
    private static int answers;
    private static int wrong;

    abstract void all();

    static void test(int ofPromise, String words, Runnable body) {
        promise = ofPromise;
        sentence = words;
        int before = answers;
        try {
            body.run();
        } catch (RuntimeException e) {
            fails(e.toString());
        }
        if (answers == before) {
            fails("asks nothing");
        }
        TESTS[ofPromise]++;
        SENTENCES.add(words);
    }

    static void due(long got, long want) {
        answers++;
        if (got != want) {
            fails("answered " + got + ", due is " + want);
        }
    }

    private static void fails(String how) {
        wrong++;
        String at = "";
        for (StackTraceElement e : Thread.currentThread().getStackTrace()) {
            if (e.getClassName().endsWith("Edges") && !e.getClassName().equals("Edges")) {
                at = e.getFileName() + ":" + e.getLineNumber();
                break;
            }
        }
        System.out.println("promise " + promise + ", \"" + sentence + "\", " + at + ": " + how);
    }

    /** How many answers were wrong, or promises without a test; tells what it counted. */
    static int told() {
        int tests = 0;
        for (int p = 1; p <= PROMISES; p++) {
            tests += TESTS[p];
            if (TESTS[p] == 0) {
                wrong++;
                System.out.println("promise " + p + " has no test of a boundary");
            }
        }
        System.out.println(tests + " boundaries, " + answers + " answers, " + wrong + " wrong");
        return wrong;
    }

    /**
     * Notes each test whose words the document does not (or no longer) have, and, if it is asked to,
     * those of the document that no test bears. The class may be right all the same: nothing fails.
     */
    static void holdAgainst(Path document, boolean unborne) throws IOException {
        if (!Files.isReadable(document)) {
            return;
        }
        String text = plain(Files.readString(document));
        boolean[] borne = new boolean[text.length()];
        for (String words : SENTENCES) {
            int at = text.indexOf(plain(words));
            if (at < 0) {
                System.out.println("note: the document does not say: " + words);
            }
            for (; at >= 0; at = text.indexOf(plain(words), at + 1)) {
                java.util.Arrays.fill(borne, at, at + plain(words).length(), true);
            }
        }
        for (int from = 0; unborne && from < text.length(); from++) {
            int to = from;
            while (to < text.length() && !borne[to]) {
                to++;
            }
            if (to - from > 3) {
                System.out.println("no test bears: " + text.substring(from, to));
            }
            from = to;
        }
    }

    private static String plain(String text) {
        return text.replaceAll("[\\s`]+", " ").trim();
    }

    // ---------------------------------------------------------------- objects to begin with

    static void feed(SpunLoop x, String text) {
        for (int at = 0; at < text.length(); at += 8) {
            int n = Math.min(8, text.length() - at);
            long w = 0;
            for (int k = 0; k < n; k++) {
                w = w << 8 | text.charAt(at + k);
            }
            x.feed(w, n);
        }
    }

    /** A new object that has read a text. */
    static SpunLoop read(String text) {
        SpunLoop x = new SpunLoop();
        feed(x, text);
        long got = x.way();
        if (got < 0) {
            fails("did not read " + text + ", but answered " + got);
        }
        return x;
    }

    /** The text has this FAULT at this place, and its way is none. */
    static void fault(String text, int place, int number) {
        SpunLoop x = new SpunLoop();
        feed(x, text);
        due(x.way(), NOT - 100 - place);
        due(x.fault(), number);
        due(x.now(0), STATE);
    }

    /** TICKS of spin, one for each SPIN that is told, by a hand that turns with the loop. */
    static SpunLoop spun(SpunLoop x, int let, int... spins) {
        for (int spin : spins) {
            int up = (int) (spin - x.now(1)) + 2;
            if (x.tick(0, up, let, spin) < 0) {
                fails("the TICK to a SPIN of " + spin + " was refused");
            }
        }
        return x;
    }

    /** Behind five TICKS: SIZE 43, SPIN 10, TWIST 0, TIRED 30, THE TICK 5. */
    static SpunLoop atTen(String things) {
        return spun(read(STIFF + things), 8, 2, 4, 6, 8, 10);
    }

    static void nowIs(SpunLoop x, long... numbers) {
        for (int what = 0; what < numbers.length; what++) {
            due(x.now(what), numbers[what]);
        }
    }

    static void toldIs(SpunLoop x, int act, long... numbers) {
        for (int what = 0; what < numbers.length; what++) {
            due(x.told(act, what), numbers[what]);
        }
    }

    // ---------------------------------------------------------------- what is refused changes nothing

    /** A call that is to be refused. */
    interface Call {
        long on(SpunLoop x);
    }

    /** An object with something of all that there is, so that a change of any of it would be seen. */
    static SpunLoop full() {
        SpunLoop x = read("rope 400 9 0;rope 40 0 1;horse 1 5 1;horse 0 0 0;beast 20 2 10 3 4;beast 30 0 9 2 6;"
            + "form 1 2 3 4;form 4 5 24 30;rule 90 5 7 2;spin 5 4 8 6;edge 0;stand 3 4 8 6;flat 1;close;");
        x.image(1);
        spun(x, 8, 2, 4, 6, 8, 10);
        x.tick(0, 3, 0, 9);
        x.row(0, 2, 4);
        x.set(0, 1, 5);
        x.row(1, 1, 2);
        feed(x, "rope");
        x.ask(1, 0);
        x.as(0, 4);
        return x;
    }

    private static long[] seen(SpunLoop x) {
        List<Long> all = new ArrayList<>();
        for (int k = 0; k <= 6; k++) {
            all.add(x.now(k));
        }
        for (int k = 0; k <= 8; k++) {
            all.add(x.count(k));
        }
        for (int k = 0; k <= 5; k++) {
            all.add((long) x.trace(k));
        }
        for (int k = 0; k < 4; k++) {
            all.add(x.odds(k % 2, k / 2, 0));
            all.add(x.odds(k % 2, k / 2, 1));
        }
        all.add((long) x.fault());
        all.add((long) x.status());
        all.add(x.need(0));
        all.add(x.told(4, 3));
        all.add(x.score());
        // What a row holds is not told by any call, but films of a first TICK see 5 and 10 in it.
        for (int k = 0; k < 4; k++) {
            all.add(x.film(0, k, 1));
        }
        // The tape is closed by a NUMBER, so that its place tells how much stood ahead, and all stays.
        x.feed('1', 1);
        all.add(x.way());
        all.add(x.restore(1));
        all.add(x.now(4));
        return all.stream().mapToLong(Long::longValue).toArray();
    }

    /** The call is refused so, and all but status() is as it would be without it. */
    static void refused(Call call, long answer) {
        SpunLoop x = full();
        due(call.on(x), answer);
        due(x.status(), answer < NOT - 10 ? NOT - 10 - answer : 3);
        SpunLoop untouched = full();
        untouched.status();
        // Both have a status now that the call with a ROW below sets anew.
        x.as(0, 4);
        long[] got = seen(x);
        long[] want = seen(untouched);
        for (int k = 0; k < want.length; k++) {
            due(got[k], want[k]);
        }
    }
}
