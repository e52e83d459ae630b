import java.util.ArrayList;
import java.util.Arrays;
import java.util.List;
import java.util.Random;

/**
 * FEWEST TICKS (promise 26) from many loops, small, wide and of tired arms, to all sizes, held against a
 * plain search by all moves.
 */
public final class SpunLoopFewest {
    private static final int NONE = -1000000;
    private static final int LOOPS = 240;
    private static final int MOST_SIZE = 200;
    private static final int MOST_TICKS = 12;
    private static final int MOST_CALLS = 512;
    private static final int SPINS = 16;
    private static final int TIREDS = 15 * (MOST_TICKS + 1) + 1;

    private static int answers = 0;
    private static int wrong = 0;

    private final Random random;
    private final SpunLoop x = new SpunLoop();
    private final StringBuilder told = new StringBuilder();
    private final int room;
    private final int stiff;
    private final int wet;
    private int calls = 0;
    private int size = 20;
    private int spin = 0;
    private int tired = 0;

    private SpunLoopFewest(int number) {
        random = new Random(104729L * number + 7);
        int length = random.nextInt(3) == 0 ? 40 + random.nextInt(361) : 300 + random.nextInt(101);
        room = length / 2;
        stiff = random.nextInt(10);
        wet = random.nextInt(4) == 0 ? 1 : 0;
        told.append("rope ").append(length).append(' ').append(stiff).append(' ').append(wet).append(';');
        for (int k = 0; k < told.length(); k++) {
            x.feed(told.charAt(k), 1);
            calls++;
        }
        x.way();
        calls++;
    }

    public static void main(String[] args) {
        for (int number = 0; number < LOOPS; number++) {
            SpunLoopFewest loop = new SpunLoopFewest(number);
            loop.climb();
            loop.compare();
            if (loop.calls > MOST_CALLS) {
                wrong++;
                System.out.println("too many calls of one object: " + loop.calls);
            }
        }
        System.out.println(answers + " answers of fewest, " + wrong + " wrong");
        if (wrong != 0) {
            System.exit(1);
        }
    }

    /** Up to 70 TICKS of a hand that does well, mostly; then, now and then, some of one that slows down. */
    private void climb() {
        int ticks = random.nextInt(random.nextInt(3) == 0 ? 70 : 25);
        for (int k = 0; k < ticks; k++) {
            boolean slow = spin < need(Math.min(MOST_SIZE, size + 10));
            tick(random.nextInt(8) == 0, slow ? 3 + random.nextInt(2) : random.nextInt(5), random.nextInt(10));
        }
        int last = random.nextInt(2) == 0 ? random.nextInt(5) : 0;
        for (int k = 0; k < last; k++) {
            tick(random.nextInt(3) == 0, random.nextInt(2), random.nextInt(10));
        }
    }

    /** A TICK by a hand that turns with the loop, so that none is ever kinked; a loop that is shut is closed. */
    private void tick(boolean standing, int up, int let) {
        spin = turned(spin, up, tired);
        int lacks = need(size) + (standing ? 2 : 0) - spin;
        size = lacks <= 0 ? Math.min(room, size + let * spin / 8) : Math.max(0, size - (standing ? 3 : 5) * lacks);
        tired += spin;
        x.tick(standing ? 1 : 0, up, let, spin);
        calls++;
        told.append(standing ? " stand " : " spin ").append(up).append(' ').append(let).append(' ').append(spin);
        if (size == 0) {
            size = 20;
            spin = 0;
            tired /= 2;
            x.close();
            calls++;
            told.append(" close");
        }
    }

    private int need(int of) {
        return Math.max(1, 4 + of / 20 + 2 * wet - stiff / 4);
    }

    private static int turned(int spin, int up, int tired) {
        return Math.min(Math.max(1, 15 - tired / 64), Math.max(0, spin + up - 2));
    }

    private void compare() {
        int[] fewest = search();
        for (int s = 1; s <= MOST_SIZE; s++) {
            due(s, MOST_TICKS, fewest[s]);
            if (fewest[s] > 0) {
                due(s, fewest[s] - 1, NONE);
            }
        }
    }

    private void due(int s, int n, long want) {
        answers++;
        calls++;
        long got = x.fewest(s, n);
        if (got != want) {
            wrong++;
            System.out.println("fewest(" + s + ", " + n + ") answered " + got + ", due is " + want + " behind " + told);
        }
    }

    /** By size: the least ticks until a loop has it or more. */
    private int[] search() {
        int[] fewest = new int[MOST_SIZE + 1];
        Arrays.fill(fewest, NONE);
        List<int[]> layer = new ArrayList<>();
        layer.add(new int[] {size, spin, 0});
        for (int k = 0; k <= MOST_TICKS; k++) {
            for (int[] loop : layer) {
                for (int s = loop[0]; s > 0 && fewest[s] == NONE; s--) {
                    fewest[s] = k;
                }
            }
            layer = behind(layer);
        }
        return fewest;
    }

    /** All loops (size, spin, by how much the arm is more tired) that are one move behind these. */
    private List<int[]> behind(List<int[]> layer) {
        boolean[] known = new boolean[(MOST_SIZE + 1) * SPINS * TIREDS];
        List<int[]> next = new ArrayList<>();
        for (int[] loop : layer) {
            for (int move = 0; move <= 5; move++) {
                int p = turned(loop[1], 1 + move / 2, tired + loop[2]);
                int lacks = need(loop[0]) - p;
                int let = move % 2 == 0 ? 4 : 8;
                int s = lacks <= 0 ? Math.min(room, loop[0] + let * p / 8) : Math.max(0, loop[0] - 5 * lacks);
                int at = (s * SPINS + p) * TIREDS + loop[2] + p;
                if (s > 0 && !known[at]) {
                    known[at] = true;
                    next.add(new int[] {s, p, loop[2] + p});
                }
            }
        }
        return next;
    }
}
