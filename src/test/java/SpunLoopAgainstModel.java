import java.util.Random;

/** Holds the program against PlainModel: runs of many calls, the same ones each time. */
public final class SpunLoopAgainstModel {
    private static int wrong = 0;
    private static final int RUNS = 700;
    private static final int CALLS = 512;
    private static final int NO_TURN = -1;

    private final Random random;
    private final SpunLoop program = new SpunLoop();
    private final PlainModel model = new PlainModel();
    private final int run;
    private int calls = 0;

    private SpunLoopAgainstModel(int run) {
        this.run = run;
        this.random = new Random(7919L * run + 13);
    }

    public static void main(String[] args) {
        for (int run = 0; run < RUNS && wrong < 20; run++) {
            new SpunLoopAgainstModel(run).go();
            new SpunLoopAgainstModel(RUNS + run).seek();
        }
        System.out.println(wrong == 0 ? "program and model agree" : wrong + " answers differ");
        if (wrong != 0) {
            System.exit(1);
        }
    }

    private void same(String call, long got, long want) {
        calls++;
        if (got != want) {
            wrong++;
            System.out.println("run " + run + " call " + calls + ": " + call + " answered " + got
                + ", the model says " + want);
        }
    }

    private int upTo(int high) {
        return random.nextInt(high + 1);
    }

    /** Mostly within low .. high, now and then just outside, seldom far away. */
    private int about(int low, int high) {
        int kind = random.nextInt(40);
        if (kind == 0) {
            return low - 1;
        }
        if (kind == 1) {
            return high + 1;
        }
        if (kind == 2) {
            int[] far = {Integer.MIN_VALUE, Integer.MAX_VALUE, -1000000, 1000000, -1, 0};
            return far[random.nextInt(far.length)];
        }
        return low + random.nextInt(high - low + 1);
    }

    private void go() {
        if (random.nextInt(4) == 0) {
            someCalls(20);
        }
        while (calls < CALLS - 100) {
            tell(text());
            someCalls(20 + upTo(60));
        }
        if (random.nextInt(20) == 0) {
            for (int k = 0; k < 76; k++) {
                feed("        ");
            }
        }
    }

    /** Loops that are well spun, at the edge of what their spin keeps open, and what is sought from there. */
    private void seek() {
        StringBuilder text = new StringBuilder();
        things(text, "rope", random.nextInt(3) == 0 ? 40 + upTo(360) : 400, random.nextInt(3) == 0 ? upTo(9) : 8 + upTo(1),
            random.nextInt(4) == 0 ? 1 : 0);
        things(text, "horse", upTo(2), upTo(20), random.nextInt(2) == 0 ? 0 : upTo(3));
        for (int b = 0; b < 1 + upTo(1); b++) {
            things(text, "beast", 10 + upTo(60), upTo(3), 1 + upTo(60), 1 + upTo(4), upTo(8));
        }
        things(text, "rule", 1 + upTo(60), upTo(20), upTo(20), upTo(9));
        tell(text.toString());
        for (int k = 0; k < 12; k++) {
            climb();
            for (int j = 0; j < 3; j++) {
                int size = (int) Math.max(1, Math.min(200, model.now(0) + 1 + upTo(70)));
                int n = random.nextInt(60) == 0 ? 12 : upTo(7);
                same("fewest " + size + " " + n, program.fewest(size, n), model.fewest(size, n));
            }
            int n = 1 + upTo(3);
            for (int i = -1; i < n; i++) {
                same("moves " + n + " " + i, program.moves(n, i), model.moves(n, i));
            }
            if (random.nextInt(3) == 0) {
                same("close", program.close(), model.close());
            }
        }
    }

    private void climb() {
        if (isFallen()) {
            same("close", program.close(), model.close());
        }
        int ticks = 1 + upTo(12);
        int let = random.nextInt(3) == 0 ? 9 : upTo(9);
        for (int k = 0; k < ticks && !isFallen(); k++) {
            long spin = model.now(1);
            int up = random.nextInt(6) == 0 ? 1 + upTo(2) : spin <= model.need((int) model.now(0)) ? 4 : 2 + upTo(1);
            int turn = (int) Math.min(15, Math.max(0, spin + up - 2));
            // The last of a climb may let out too much, so that the spin lacks.
            int out = k == ticks - 1 ? upTo(9) : let;
            same("tick", program.tick(0, up, out, turn), model.tick(0, up, out, turn));
        }
    }

    private void feed(String part) {
        long w = random.nextLong();
        for (int k = 0; k < part.length(); k++) {
            w = w << 8 | part.charAt(k) & 255;
        }
        same("feed", program.feed(w, part.length()), model.feed(w, part.length()));
    }

    private void tell(String text) {
        for (int at = 0; at < text.length(); at += 8) {
            feed(text.substring(at, Math.min(text.length(), at + 8)));
        }
        same("way of " + text, program.way(), model.way());
        same("fault", program.fault(), model.fault());
    }

    private String text() {
        StringBuilder text = new StringBuilder();
        int ropes = 1 + upTo(2);
        int horses = upTo(3);
        int beasts = upTo(4);
        int forms = random.nextInt(3) == 0 ? upTo(6) : 0;
        for (int k = 0; k < ropes; k++) {
            things(text, "rope", 40 + upTo(random.nextInt(4) == 0 ? 30 : 360), random.nextInt(2) == 0 ? 8 + upTo(1) : upTo(9),
                random.nextInt(4) == 0 ? 1 : 0);
        }
        for (int k = 0; k < horses; k++) {
            things(text, "horse", upTo(random.nextInt(2) == 0 ? 3 : 20), upTo(random.nextInt(2) == 0 ? 9 : 99), upTo(3));
        }
        for (int k = 0; k < beasts; k++) {
            things(text, "beast", 1 + upTo(random.nextInt(3) == 0 ? 199 : 29), upTo(random.nextInt(4) == 0 ? 15 : 4),
                1 + upTo(random.nextInt(3) == 0 ? 99 : 19), 1 + upTo(8), upTo(12));
        }
        for (int k = 0; k < forms; k++) {
            int low = upTo(15);
            int small = upTo(200);
            things(text, "form", low, low + upTo(Math.min(4, 15 - low)), small, small + upTo(Math.min(40, 200 - small)));
        }
        if (random.nextInt(2) == 0) {
            things(text, "rule", 1 + upTo(random.nextInt(2) == 0 ? 12 : 199), upTo(99), upTo(99), upTo(99));
        }
        acts(text, beasts);
        if (random.nextInt(5) == 0) {
            spoil(text);
        }
        return text.length() > 400 ? text.substring(0, 400) : text.toString();
    }

    /** Throw upon throw, each from a loop that is good for it. */
    private void manyThrows(StringBuilder text, int beasts) {
        for (int k = 0; k < 1 + upTo(8); k++) {
            things(text, "spin", 3 + upTo(5), 4, upTo(9), 4 + upTo(4));
            things(text, random.nextInt(3) == 0 ? "flat" : "edge", upTo(beasts - 1));
        }
    }

    private void acts(StringBuilder text, int beasts) {
        if (beasts > 0 && random.nextInt(3) == 0) {
            manyThrows(text, beasts);
            return;
        }
        int acts = upTo(random.nextInt(8) == 0 ? 22 : 8);
        for (int k = 0; k < acts; k++) {
            int sort = random.nextInt(6);
            if (k == 0 && random.nextInt(2) == 0) {
                things(text, "spin", 3 + upTo(6), 4, upTo(9), 4 + upTo(4));
            } else if (sort < 2) {
                things(text, "spin", 1 + upTo(random.nextInt(4) == 0 ? 39 : 7), 1 + upTo(3), upTo(9), upTo(15));
            } else if (sort == 2) {
                things(text, "stand", 1 + upTo(random.nextInt(4) == 0 ? 39 : 7), 1 + upTo(3), upTo(9), upTo(15));
            } else if (sort < 5 && beasts > 0) {
                things(text, random.nextInt(2) == 0 ? "flat" : "edge", upTo(beasts - 1));
            } else {
                things(text, "close");
            }
        }
    }

    private void things(StringBuilder text, String word, int... numbers) {
        text.append(word);
        for (int n : numbers) {
            text.append(random.nextInt(8) == 0 ? "\n " : " ").append(n);
        }
        text.append(random.nextInt(8) == 0 ? " ;\n" : ";");
    }

    private void spoil(StringBuilder text) {
        for (int k = 0; k < 1 + upTo(2) && text.length() > 0; k++) {
            int at = random.nextInt(text.length());
            String signs = " \n;09a1zr#" + (char) 9 + (char) 0 + (char) 200;
            char sign = signs.charAt(random.nextInt(signs.length()));
            switch (random.nextInt(4)) {
                case 0:
                    text.deleteCharAt(at);
                    break;
                case 1:
                    text.insert(at, sign);
                    break;
                case 2:
                    text.setCharAt(at, sign);
                    break;
                default:
                    text.setLength(at);
                    break;
            }
        }
    }

    private void someCalls(int n) {
        for (int k = 0; k < n && calls < CALLS - 80; k++) {
            switch (random.nextInt(13)) {
                case 0:
                    rowCalls();
                    break;
                case 1:
                    askCalls();
                    break;
                case 2:
                case 3:
                case 4:
                    spin();
                    break;
                case 5:
                    throwing();
                    break;
                case 6:
                    open();
                    break;
                case 7:
                case 8:
                    runs();
                    break;
                case 9:
                    row();
                    break;
                case 10:
                    sought();
                    break;
                case 11:
                    films();
                    break;
                default:
                    keeping();
                    break;
            }
        }
        allOfIt();
    }

    private void allOfIt() {
        for (int what = 0; what <= 6; what++) {
            same("now " + what, program.now(what), model.now(what));
        }
        for (int what = -1; what <= 9; what++) {
            same("count " + what, program.count(what), model.count(what));
        }
        same("status", program.status(), model.status());
    }

    private void rowCalls() {
        int a = about(0, 2);
        int b = about(0, 2);
        int i = about(0, 4);
        int j = about(0, 4);
        int n = about(0, random.nextInt(2) == 0 ? 40 : 6);
        int v = random.nextInt() >> upTo(31);
        switch (random.nextInt(6)) {
            case 0:
                int lane = about(0, 2);
                same("row", program.row(a, lane, n), model.row(a, lane, n));
                break;
            case 1:
            case 2:
                same("set", program.set(a, i, v), model.set(a, i, v));
                break;
            case 3:
            case 4:
                same("copy", program.copy(a, i, b, j, n), model.copy(a, i, b, j, n));
                break;
            default:
                same("drop", program.drop(a), model.drop(a));
                break;
        }
        same("status", program.status(), model.status());
    }

    private void askCalls() {
        int act = about(0, Math.max(0, (int) model.count(5) - 1));
        int what = about(0, 1);
        int kind = about(0, 6);
        same("kind " + act, program.kind(act), model.kind(act));
        same("as " + act + " " + kind, program.as(act, kind), model.as(act, kind));
        same("ask " + act + " " + what, program.ask(act, what), model.ask(act, what));
        for (int i = -1; i <= 5; i++) {
            same("trace " + i, program.trace(i), model.trace(i));
        }
        int number = about(0, 3);
        same("act", program.act(act, number), model.act(act, number));
    }

    /** A hand that does well, mostly: it gathers speed ahead of what the loop will need. */
    private void spin() {
        int ticks = 1 + upTo(random.nextInt(6) == 0 ? 40 : 11);
        int wry = random.nextInt(4) == 0 ? upTo(15) : NO_TURN;
        int let = upTo(9);
        for (int k = 0; k < ticks && calls < CALLS - 80; k++) {
            long spin = model.now(1);
            int up = spin < 0 || spin < model.need((int) Math.min(200, model.now(0) + 20)) ? 4 : 1 + upTo(2);
            int turn = wry != NO_TURN ? wry : (int) Math.max(0, Math.min(15, spin + upTo(3)));
            int manner = random.nextInt(8) == 0 ? 1 : 0;
            if (random.nextInt(15) == 0) {
                up = about(0, 4);
                turn = about(0, 15);
                manner = about(0, 1);
                let = about(0, 9);
            }
            same("tick", program.tick(manner, up, let, turn), model.tick(manner, up, let, turn));
            if (isFallen()) {
                break;
            }
        }
        same("now", program.now(6), model.now(6));
        if (isFallen() && random.nextInt(4) != 0) {
            same("close", program.close(), model.close());
        }
    }

    private boolean isFallen() {
        return model.now(0) <= 0 || model.now(5) == 1;
    }

    private void throwing() {
        int how = about(0, 1);
        int beast = about(0, Math.max(0, (int) model.count(3) - 1));
        int what = about(0, 1);
        if (random.nextInt(2) == 0) {
            spin();
        }
        same("odds", program.odds(how, beast, what), model.odds(how, beast, what));
        same("odds", program.odds(1 - how, beast, what), model.odds(1 - how, beast, what));
        if (random.nextInt(3) == 0) {
            same("hurl", program.hurl(how, beast), model.hurl(how, beast));
        }
    }

    private void open() {
        int spin = about(0, 15);
        int n = about(1, 40);
        int size = about(0, 200);
        same("need", program.need(size), model.need(size));
        same("greatest", program.greatest(spin), model.greatest(spin));
        same("out " + spin + " " + n, program.out(spin, n), model.out(spin, n));
        int pull = about(1, 999999) >> upTo(19);
        int grip = about(1, 99);
        same("wraps", program.wraps(pull, grip), model.wraps(pull, grip));
        int piece = about(0, 40);
        same("piece", program.piece(piece), model.piece(piece));
    }

    private void runs() {
        int act = about(-1, Math.max(-1, (int) model.count(5) - 1));
        int what = about(0, 7);
        same("told " + act + " " + what, program.told(act, what), model.told(act, what));
        int upper = about(0, 1);
        same("all", program.all(upper), model.all(upper));
        same("score", program.score(), model.score());
        int beast = about(0, Math.max(0, (int) model.count(3) - 1));
        int which = about(0, 2);
        same("best", program.best(beast, which), model.best(beast, which));
    }

    private void row() {
        int n = random.nextInt(30) == 0 ? 5 : about(1, model.count(3) > 2 ? 3 : 4);
        if (random.nextInt(2) == 0) {
            spin();
        }
        int i = about(-1, 5);
        // The model tries all rows, which takes long for five moves and many beasts.
        if (n == 5 && model.count(3) > 2) {
            n = 3;
        }
        same("moves " + n + " " + i, program.moves(n, i), model.moves(n, i));
        same("moves " + n + " 0", program.moves(n, 0), model.moves(n, 0));
    }

    private void sought() {
        int n = random.nextInt(10) == 0 ? about(0, 12) : about(0, 8);
        if (random.nextInt(3) != 0) {
            spin();
        }
        int size = random.nextInt(3) == 0 ? about(1, 200) : (int) Math.max(1, model.now(0)) + upTo(60);
        same("fewest " + size + " " + n, program.fewest(size, n), model.fewest(size, n));
        int i = about(-1, 6);
        same("show " + i, program.show(i), model.show(i));
        int from = about(0, 100);
        int to = about(0, 100);
        int what = about(0, 1);
        same("learn", program.learn(from, to, what), model.learn(from, to, what));
    }

    /** Films of hands that there are, and of others. */
    private void films() {
        int row = upTo(2);
        int n = 1 + upTo(19);
        int up = 1 + upTo(2);
        int let = 4 * upTo(2);
        int lane = 1 + upTo(1);
        if (calls > CALLS - 150 || model.count(1) == 0) {
            return;
        }
        same("image", program.image(1), model.image(1));
        same("row", program.row(row, lane, n), model.row(row, lane, n));
        int rope = upTo((int) model.count(1) - 1);
        same("take", program.take(rope, PlainModel.NONE), model.take(rope, PlainModel.NONE));
        for (int k = 0; k < n && !isFallen(); k++) {
            int turn = (int) Math.max(0, Math.min(15, model.now(1) + up - 2));
            same("tick", program.tick(0, up, let, turn), model.tick(0, up, let, turn));
            same("set", program.set(row, k, (int) model.now(0)), model.set(row, k, (int) model.now(0)));
        }
        int i = random.nextInt(4) == 0 ? about(0, 3) : 0;
        int m = random.nextInt(4) == 0 ? about(1, 20) : n;
        same("film", program.film(row, i, m), model.film(row, i, m));
        int other = about(0, 7);
        same("film", program.film(other, i, m), model.film(other, i, m));
        same("status", program.status(), model.status());
        same("restore", program.restore(1), model.restore(1));
    }

    private void keeping() {
        int k = about(0, 1);
        switch (random.nextInt(4)) {
            case 0:
                same("image", program.image(k), model.image(k));
                break;
            case 1:
                same("restore", program.restore(k), model.restore(k));
                break;
            default:
                int rope = about(0, Math.max(0, (int) model.count(1) - 1));
                int horse = random.nextInt(3) == 0 ? PlainModel.NONE : about(0, Math.max(0, (int) model.count(2) - 1));
                same("take", program.take(rope, horse), model.take(rope, horse));
                break;
        }
    }
}
