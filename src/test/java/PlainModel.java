import java.util.ArrayList;
import java.util.HashSet;
import java.util.List;
import java.util.Set;

/**
 * The document's words once more, as plainly and slowly as can be: texts as Strings, acts as a tree
 * of classes, searches that try everything. SpunLoopAgainstModel holds the program against it.
 */
final class PlainModel {
    static final int NONE = -1000000;
    static final long NOT = -9000000000000000000L;
    static final long BAD = NOT - 1;
    static final long STATE = NOT - 2;
    static final long FULL = NOT - 3;

    // ---------------------------------------------------------------- state

    private final int[][] rows = new int[8][];
    private final int[] lanes = new int[8];
    private String tape = "";
    private int latestFault = 0;
    private Story story = null;
    private Live live = null;
    private int rope = 0;
    private int horse = NONE;
    private final Object[][] images = new Object[2][];
    private List<Integer> traced = new ArrayList<>();
    private int finding = 0;

    static final class Story {
        final List<int[]> ropes = new ArrayList<>();
        final List<int[]> horses = new ArrayList<>();
        final List<int[]> beasts = new ArrayList<>();
        final List<int[]> forms = new ArrayList<>();
        int[] rule = null;
        final List<Act> acts = new ArrayList<>();

        int[] ruling() {
            return rule == null ? new int[] {200, 1, 1, 0} : rule;
        }
    }

    /** A loop that never changes: each step makes a new one. */
    record Live(int size, int spin, int twist, int tired, int tick, boolean kinked, int why) {
        static final Live FIRST = new Live(20, 0, 0, 0, 0, false, NONE);

        boolean shut() {
            return size == 0;
        }

        Live closed() {
            return new Live(20, 0, 0, tired / 2, tick + 1, false, NONE);
        }

        Live thrown() {
            return new Live(20, 0, 0, tired, tick + 1, false, NONE);
        }
    }

    // ---------------------------------------------------------------- acts

    class Act {
        final int number;

        Act(int number) {
            this.number = number;
        }

        int kind() {
            return 0;
        }

        int size() {
            traced.add(10);
            return 1;
        }

        int mark() {
            traced.add(20);
            return number;
        }
    }

    class Looped extends Act {
        final int[] n;

        Looped(int number, int[] n) {
            super(number);
            this.n = n;
        }

        @Override
        int kind() {
            return 1;
        }

        @Override
        int size() {
            traced.add(11);
            return super.size() + n[0];
        }

        @Override
        int mark() {
            traced.add(21);
            return super.mark() + n[2];
        }
    }

    final class Spun extends Looped {
        Spun(int number, int[] n) {
            super(number, n);
        }

        @Override
        int kind() {
            return 2;
        }

        @Override
        int mark() {
            traced.add(22);
            return super.mark() + size();
        }
    }

    final class Standing extends Looped {
        Standing(int number, int[] n) {
            super(number, n);
        }

        @Override
        int kind() {
            return 3;
        }

        @Override
        int size() {
            traced.add(12);
            return super.size() * 2;
        }
    }

    class Thrown extends Act {
        final int beast;

        Thrown(int number, int beast) {
            super(number);
            this.beast = beast;
        }

        @Override
        int kind() {
            return 4;
        }

        @Override
        int size() {
            traced.add(13);
            return super.size() + story.beasts.get(beast)[0];
        }
    }

    final class Edged extends Thrown {
        Edged(int number, int beast) {
            super(number, beast);
        }

        @Override
        int kind() {
            return 5;
        }

        @Override
        int size() {
            traced.add(14);
            return super.size() - mark();
        }

        @Override
        int mark() {
            traced.add(24);
            return super.mark() + 50;
        }
    }

    final class Closing extends Act {
        Closing(int number) {
            super(number);
        }

        @Override
        int kind() {
            return 6;
        }

        @Override
        int mark() {
            traced.add(23);
            return 0 - super.mark();
        }
    }

    // ---------------------------------------------------------------- reading

    static final class Fault extends Exception {
        private static final long serialVersionUID = 1L;
        final int number;
        final int place;

        Fault(int number, int place) {
            this.number = number;
            this.place = place;
        }
    }

    record Token(char type, String text, int place) {
    }

    private static List<Token> tokens(String text) {
        List<Token> found = new ArrayList<>();
        int i = 0;
        while (i < text.length()) {
            char c = text.charAt(i);
            if (c == ' ' || c == '\n') {
                i++;
                continue;
            }
            String rest = text.substring(i);
            String name = rest.replaceFirst("(?s)[^a-z].*", "");
            String figures = rest.replaceFirst("(?s)[^0-9].*", "");
            if (!name.isEmpty()) {
                found.add(new Token('n', name, i));
                i += name.length();
            } else if (!figures.isEmpty()) {
                found.add(new Token(figures.length() <= 3 ? '9' : '?', figures, i));
                i += figures.length();
            } else {
                found.add(new Token(c == ';' ? ';' : '?', "" + c, i));
                i++;
            }
        }
        found.add(new Token('.', "", text.length()));
        return found;
    }

    private final class Parser {
        private final List<Token> tokens;
        private int at = 0;
        private final Story read = new Story();

        Parser(String text) {
            tokens = tokens(text);
        }

        private Token here() {
            return tokens.get(at);
        }

        private boolean sees(String word) {
            return here().type == 'n' && here().text.equals(word);
        }

        private int number(int low, int high) throws Fault {
            Token t = here();
            if (t.type != '9') {
                throw new Fault(1, t.place);
            }
            int v = Integer.parseInt(t.text);
            if (v < low || v > high) {
                throw new Fault(2, t.place);
            }
            at++;
            return v;
        }

        private void semicolon() throws Fault {
            if (here().type != ';') {
                throw new Fault(1, here().place);
            }
            at++;
        }

        private void word(List<?> list, int room) throws Fault {
            if (list.size() == room) {
                throw new Fault(3, here().place);
            }
            at++;
        }

        Story story() throws Fault {
            if (!sees("rope")) {
                throw new Fault(1, here().place);
            }
            while (sees("rope")) {
                word(read.ropes, 3);
                int[] n = {number(40, 400), number(0, 9), number(0, 1)};
                semicolon();
                read.ropes.add(n);
            }
            while (sees("horse")) {
                word(read.horses, 3);
                int[] n = {number(0, 20), number(0, 99), number(0, 3)};
                semicolon();
                read.horses.add(n);
            }
            while (sees("beast")) {
                word(read.beasts, 4);
                int[] n = {number(1, 200), number(0, 15), number(1, 100), number(1, 9), number(0, 12)};
                semicolon();
                read.beasts.add(n);
            }
            while (sees("form")) {
                word(read.forms, 6);
                int low = number(0, 15);
                int high = number(low, 15);
                int small = number(0, 200);
                int big = number(small, 200);
                semicolon();
                read.forms.add(new int[] {low, high, small, big});
            }
            if (sees("rule")) {
                at++;
                int[] n = {number(1, 200), number(0, 99), number(0, 99), number(0, 99)};
                semicolon();
                read.rule = n;
            }
            acts();
            if (here().type != '.') {
                throw new Fault(1, here().place);
            }
            return read;
        }

        private void acts() throws Fault {
            while (sees("spin") || sees("stand") || sees("flat") || sees("edge") || sees("close")) {
                String name = here().text;
                word(read.acts, 20);
                int k = read.acts.size();
                Act act;
                if (name.equals("close")) {
                    act = new Closing(k);
                } else if (name.equals("flat") || name.equals("edge")) {
                    int beast = number(0, read.beasts.size() - 1);
                    act = name.equals("flat") ? new Thrown(k, beast) : new Edged(k, beast);
                } else {
                    int[] n = {number(1, 40), number(0, 4), number(0, 9), number(0, 15)};
                    act = name.equals("spin") ? new Spun(k, n) : new Standing(k, n);
                }
                semicolon();
                read.acts.add(act);
            }
        }
    }

    // ---------------------------------------------------------------- the loop

    private int needOf(int size) {
        int[] r = story.ropes.get(rope);
        int need = 4 + size / 20;
        if (r[2] == 1) {
            need += 2;
        }
        need -= r[1] / 4;
        return need < 1 ? 1 : need;
    }

    private int limit() {
        return 24 + 4 * story.ropes.get(rope)[1];
    }

    private int room() {
        return story.ropes.get(rope)[0] / 2;
    }

    private int horseNumber(int what) {
        return horse == NONE ? 0 : story.horses.get(horse)[what];
    }

    private static int spinBehind(Live l, int up) {
        int top = 15 - l.tired / 64;
        if (top < 1) {
            top = 1;
        }
        int spin = l.spin + up - 2;
        if (spin < 0) {
            spin = 0;
        }
        return spin > top ? top : spin;
    }

    private Live ticked(Live l, boolean stand, int up, int let, int turn) {
        int spin = spinBehind(l, up);
        int want = stand ? needOf(l.size) + 2 : needOf(l.size);
        int size;
        boolean opens = spin >= want;
        if (opens) {
            size = l.size + (let * spin) / 8;
            if (size > room()) {
                size = room();
            }
        } else {
            size = l.size - (stand ? 3 : 5) * (want - spin);
            if (size < 0) {
                size = 0;
            }
        }
        int twist = l.twist + (stand ? (spin - turn) / 2 : spin - turn);
        boolean kinked = twist > limit() || twist < 0 - limit();
        int why;
        if (kinked) {
            why = 4;
        } else if (size == 0) {
            why = 3;
        } else if (!opens) {
            why = 2;
        } else if (size == room()) {
            why = 1;
        } else {
            why = 0;
        }
        return new Live(size, spin, twist, l.tired + spin, l.tick + 1, kinked, why);
    }

    private static boolean stuck(Live l) {
        return l.kinked || l.shut();
    }

    /** {by how much it misses (0: it does not), what is left, the odds of 12}. */
    private int[] thrown(Live l, int how, int beast, int spin) {
        int[] b = story.beasts.get(beast);
        if (stuck(l)) {
            return new int[] {999, 0, 0};
        }
        int d = b[0] - horseNumber(0) * l.tick;
        int least = b[0] < horseNumber(1) ? b[0] : horseNumber(1);
        if (d < least) {
            d = least;
        }
        int t = 1;
        while (t <= 30 && spin * t < d + b[1] * t) {
            t++;
        }
        if (t > 30) {
            return new int[] {500, 0, 0};
        }
        int left = how == 0 ? l.size - 6 * t - b[2] : l.size - 4 * t - b[2] / 2;
        if (left < 0) {
            return new int[] {-left, 0, 0};
        }
        if (how == 0) {
            return new int[] {0, left, 12 - b[4]};
        }
        return new int[] {0, left, t % b[3] == 0 ? 12 : 4};
    }

    private long[] oddsOf(Live l, int how, int beast) {
        int s = horseNumber(2);
        long sum = 0;
        for (int p = l.spin - s; p <= l.spin + s; p++) {
            sum += thrown(l, how, beast, p < 0 ? 0 : p)[2];
        }
        return lowest(sum, 12L * (2 * s + 1));
    }

    private static long[] lowest(long a, long b) {
        java.math.BigInteger g = java.math.BigInteger.valueOf(a).gcd(java.math.BigInteger.valueOf(b));
        return new long[] {a / g.longValue(), b / g.longValue()};
    }

    private int worth(Live l, int how, int beast) {
        int[] r = story.ruling();
        if (l.tick > r[0]) {
            return 0;
        }
        long[] o = oddsOf(l, how, beast);
        if (2 * o[0] >= o[1]) {
            return how == 0 ? r[1] : r[2];
        }
        return 0 - r[3];
    }

    private static int tell(Live l, int what) {
        return new int[] {l.size, l.spin, l.twist, l.tired, l.tick, l.kinked ? 1 : 0, l.why}[what];
    }

    // ---------------------------------------------------------------- calls

    private long found(int n) {
        finding = n;
        return NOT - 10 - n;
    }

    private long well(long v) {
        finding = 0;
        return v;
    }

    private static boolean in(int v, int a, int b) {
        return a <= v && v <= b;
    }

    private boolean noAct(int act) {
        return story == null || !in(act, 0, story.acts.size() - 1);
    }

    private boolean noBeast(int beast) {
        return story == null || !in(beast, 0, story.beasts.size() - 1);
    }

    long row(int row, int lane, int n) {
        if (!in(row, 0, 7) || !in(lane, 0, 2) || n > 40) {
            return BAD;
        }
        if (n < 0) {
            return found(4);
        }
        rows[row] = new int[n];
        lanes[row] = lane;
        return well(n);
    }

    long set(int row, int i, int v) {
        if (!in(row, 0, 7)) {
            return BAD;
        }
        if (rows[row] == null) {
            return found(1);
        }
        if (!in(i, 0, rows[row].length - 1)) {
            return found(2);
        }
        int bits = new int[] {24, 16, 0}[lanes[row]];
        rows[row][i] = v << bits >> bits;
        return well(rows[row][i]);
    }

    long copy(int a, int i, int b, int j, int n) {
        if (!in(a, 0, 7) || !in(b, 0, 7)) {
            return BAD;
        }
        if (rows[a] == null || rows[b] == null) {
            return found(1);
        }
        if (lanes[a] != lanes[b]) {
            return found(5);
        }
        if (i < 0 || j < 0 || n < 0 || (long) i + n > rows[a].length || (long) j + n > rows[b].length) {
            return found(2);
        }
        int[] before = rows[a].clone();
        for (int k = 0; k < n; k++) {
            rows[b][j + k] = before[i + k];
        }
        return well(n);
    }

    long drop(int row) {
        if (!in(row, 0, 7)) {
            return BAD;
        }
        if (rows[row] == null) {
            return found(1);
        }
        int had = rows[row].length;
        rows[row] = null;
        return well(had);
    }

    long feed(long w, int n) {
        if (!in(n, 1, 8)) {
            return BAD;
        }
        if (tape.length() + n > 600) {
            return FULL;
        }
        StringBuilder more = new StringBuilder();
        for (int k = 0; k < n; k++) {
            more.insert(0, (char) (w >> 8 * k & 255));
        }
        tape += more;
        return tape.length();
    }

    long way() {
        String text = tape;
        tape = "";
        try {
            story = new Parser(text).story();
        } catch (Fault f) {
            latestFault = f.number;
            return NOT - 100 - f.place;
        }
        live = Live.FIRST;
        rope = 0;
        horse = story.horses.isEmpty() ? NONE : 0;
        return story.acts.size();
    }

    int fault() {
        return latestFault;
    }

    long act(int act, int what) {
        if (noAct(act) || !in(what, 0, 3)) {
            return BAD;
        }
        Act a = story.acts.get(act);
        if (a instanceof Looped l) {
            return l.n[what];
        }
        return a instanceof Thrown t && what == 0 ? t.beast : NONE;
    }

    long take(int rope, int horse) {
        if (story == null || !in(rope, 0, story.ropes.size() - 1)) {
            return BAD;
        }
        if (horse != NONE && !in(horse, 0, story.horses.size() - 1)) {
            return BAD;
        }
        this.rope = rope;
        this.horse = horse;
        live = Live.FIRST;
        return 1;
    }

    long tick(int manner, int up, int let, int turn) {
        if (!in(manner, 0, 1) || !in(up, 0, 4) || !in(let, 0, 9) || !in(turn, 0, 15)) {
            return BAD;
        }
        if (story == null || stuck(live)) {
            return STATE;
        }
        live = ticked(live, manner == 1, up, let, turn);
        return live.why;
    }

    long hurl(int how, int beast) {
        if (!in(how, 0, 1) || noBeast(beast)) {
            return BAD;
        }
        int[] t = thrown(live, how, beast, live.spin);
        live = live.thrown();
        return t[0] > 0 ? t[0] : 0 - t[1] - 1;
    }

    long close() {
        if (story == null) {
            return STATE;
        }
        live = live.closed();
        return live.tick;
    }

    long now(int what) {
        if (!in(what, 0, 6)) {
            return BAD;
        }
        return story == null ? STATE : tell(live, what);
    }

    long piece(int i) {
        if (story == null) {
            return STATE;
        }
        int pieces = story.ropes.get(rope)[0] / 10;
        if (!in(i, 0, pieces - 1)) {
            return BAD;
        }
        List<Integer> where = new ArrayList<>();
        for (int k = 0; k < live.size / 10; k++) {
            where.add(2);
        }
        where.add(3);
        for (int k = 0; k < 4 + live.size / 40; k++) {
            where.add(1);
        }
        while (where.size() < pieces) {
            where.add(0);
        }
        return where.get(i);
    }

    long odds(int how, int beast, int what) {
        if (!in(how, 0, 1) || noBeast(beast) || !in(what, 0, 1)) {
            return BAD;
        }
        return oddsOf(live, how, beast)[what];
    }

    long need(int size) {
        if (!in(size, 0, 200)) {
            return BAD;
        }
        return story == null ? STATE : needOf(size);
    }

    long greatest(int spin) {
        if (!in(spin, 0, 15)) {
            return BAD;
        }
        if (story == null) {
            return STATE;
        }
        int best = NONE;
        for (int size = 0; size <= 400; size++) {
            if (spin >= needOf(size)) {
                best = size;
            }
        }
        return best;
    }

    long out(int spin, int n) {
        if (!in(spin, 0, 15) || !in(n, 1, 40)) {
            return BAD;
        }
        if (story == null) {
            return STATE;
        }
        for (int turn = 0; turn <= 15; turn++) {
            boolean free = true;
            for (int k = 1; k <= n; k++) {
                int twist = live.twist + k * (spin - turn);
                free &= twist <= limit() && twist >= 0 - limit();
            }
            if (free) {
                return turn;
            }
        }
        return NONE;
    }

    long wraps(int pull, int grip) {
        if (!in(pull, 1, 999999) || !in(grip, 1, 99)) {
            return BAD;
        }
        for (int w = 0; w <= 9; w++) {
            if (grip * (long) Math.pow(3, w) >= pull) {
                return w;
            }
        }
        return NONE;
    }

    long told(int act, int what) {
        if (story == null) {
            return STATE;
        }
        if (!in(act, -1, story.acts.size() - 1) || !in(what, 0, 7)) {
            return BAD;
        }
        Live l = Live.FIRST;
        int missed = NONE;
        int why = NONE;
        for (int a = 0; a <= act; a++) {
            missed = NONE;
            why = NONE;
            Act one = story.acts.get(a);
            if (one instanceof Looped looped) {
                for (int k = 0; k < looped.n[0] && !stuck(l); k++) {
                    l = ticked(l, one.kind() == 3, looped.n[1], looped.n[2], looped.n[3]);
                    why = l.why;
                }
            } else if (one instanceof Thrown t) {
                missed = thrown(l, t.kind() - 4, t.beast, l.spin)[0];
                l = l.thrown();
            } else {
                l = l.closed();
            }
        }
        return what == 6 ? missed : what == 7 ? why : tell(l, what);
    }

    /** The loop ahead of each act of a run, each got by telling all that is behind the one before. */
    private Live ahead(int act) {
        return new Live((int) told(act - 1, 0), (int) told(act - 1, 1), (int) told(act - 1, 2),
            (int) told(act - 1, 3), (int) told(act - 1, 4), told(act - 1, 5) == 1, NONE);
    }

    long all(int what) {
        if (!in(what, 0, 1)) {
            return BAD;
        }
        if (story == null) {
            return STATE;
        }
        long[] product = {1, 1};
        for (Act a : story.acts) {
            if (a instanceof Thrown t) {
                long[] o = oddsOf(ahead(a.number), t.kind() - 4, t.beast);
                product = lowest(product[0] * o[0], product[1] * o[1]);
                if (product[1] > 1000000000000L) {
                    return NONE;
                }
            }
        }
        return product[what];
    }

    long score() {
        if (story == null) {
            return STATE;
        }
        long sum = 0;
        for (Act a : story.acts) {
            if (a instanceof Thrown t) {
                sum += worth(ahead(a.number), t.kind() - 4, t.beast);
            }
        }
        return sum;
    }

    long best(int beast, int what) {
        if (noBeast(beast) || !in(what, 0, 2)) {
            return BAD;
        }
        List<Live> lives = new ArrayList<>();
        Live l = Live.FIRST;
        lives.add(l);
        for (Act a : story.acts) {
            if (!(a instanceof Looped looped)) {
                break;
            }
            for (int k = 0; k < looped.n[0] && !stuck(l); k++) {
                l = ticked(l, a.kind() == 3, looped.n[1], looped.n[2], looped.n[3]);
                lives.add(l);
            }
        }
        long[] top = {0, 1};
        long at = NONE;
        for (Live one : lives) {
            for (int how = 0; how <= 1; how++) {
                long[] o = oddsOf(one, how, beast);
                if (o[0] * top[1] > top[0] * o[1]) {
                    top = o;
                    at = 2L * one.tick + how;
                }
            }
        }
        return what == 0 ? at : top[what - 1];
    }

    private int bestWorth;
    private List<Integer> bestRow;

    private void everyRow(Live l, int left, Set<Integer> hit, List<Integer> row, int worth) {
        boolean moved = false;
        if (left > 0) {
            for (int move = 0; move <= 5 && !stuck(l); move++) {
                int up = 1 + move / 2;
                Live next = ticked(l, false, up, move % 2 == 0 ? 4 : 8, spinBehind(l, up));
                row.add(move);
                everyRow(next, left - 1, hit, row, worth);
                row.remove(row.size() - 1);
                moved = true;
            }
            for (int move = 6; move < 6 + 2 * story.beasts.size(); move++) {
                int beast = (move - 6) / 2;
                if (hit.contains(beast)) {
                    continue;
                }
                hit.add(beast);
                row.add(move);
                everyRow(l.thrown(), left - 1, hit, row, worth + worth(l, move % 2, beast));
                row.remove(row.size() - 1);
                hit.remove(beast);
                moved = true;
            }
        }
        if (!moved && (bestRow == null || worth > bestWorth)) {
            bestWorth = worth;
            bestRow = new ArrayList<>(row);
        }
    }

    long moves(int n, int i) {
        if (!in(n, 1, 5) || i < -1) {
            return BAD;
        }
        if (story == null) {
            return STATE;
        }
        bestRow = null;
        everyRow(live, n, new HashSet<>(), new ArrayList<>(), 0);
        if (i == -1) {
            return bestWorth;
        }
        return i < bestRow.size() ? bestRow.get(i) : NONE;
    }

    long fewest(int size, int n) {
        if (!in(size, 1, 200) || !in(n, 0, 12)) {
            return BAD;
        }
        if (story == null) {
            return STATE;
        }
        Set<Live> layer = new HashSet<>();
        layer.add(live);
        for (int k = 0; k <= n; k++) {
            Set<Live> next = new HashSet<>();
            for (Live l : layer) {
                if (l.size >= size) {
                    return k;
                }
                for (int move = 0; move <= 5 && !stuck(l); move++) {
                    int up = 1 + move / 2;
                    next.add(ticked(l, false, up, move % 2 == 0 ? 4 : 8, spinBehind(l, up)));
                }
            }
            layer = next;
        }
        return NONE;
    }

    private boolean someNear(int[] a, int[] b, int at, int reach) {
        for (int x = a[at]; x <= a[at + 1]; x++) {
            for (int y = b[at]; y <= b[at + 1]; y++) {
                if (Math.abs(x - y) <= reach) {
                    return true;
                }
            }
        }
        return false;
    }

    private List<Integer> longestFrom(List<Integer> row) {
        List<Integer> top = row;
        for (int f = 0; f < story.forms.size(); f++) {
            boolean goes = !row.contains(f);
            if (goes && !row.isEmpty()) {
                int[] a = story.forms.get(row.get(row.size() - 1));
                int[] b = story.forms.get(f);
                goes = someNear(a, b, 0, 2) && someNear(a, b, 2, 20);
            }
            if (goes) {
                List<Integer> more = new ArrayList<>(row);
                more.add(f);
                List<Integer> got = longestFrom(more);
                if (got.size() > top.size()) {
                    top = got;
                }
            }
        }
        return top;
    }

    long show(int i) {
        if (i < -1) {
            return BAD;
        }
        if (story == null) {
            return STATE;
        }
        List<Integer> row = longestFrom(new ArrayList<>());
        if (i == -1) {
            return row.size();
        }
        return i < row.size() ? row.get(i) : NONE;
    }

    private int tried(int skill, int[] r) {
        int d = Math.abs(skill / 10 - r[1] - r[0] / 50);
        int more = 10 - d;
        return more > 0 ? Math.min(100, skill + more) : skill;
    }

    private int tries(Set<Integer> from, int to) {
        Set<Integer> skills = from;
        for (int k = 0; k <= 30; k++) {
            Set<Integer> next = new HashSet<>();
            for (int skill : skills) {
                if (skill >= to) {
                    return k;
                }
                for (int[] r : story.ropes) {
                    next.add(tried(skill, r));
                }
            }
            skills = next;
        }
        return NONE;
    }

    long learn(int from, int to, int what) {
        if (!in(from, 0, 100) || !in(to, 0, 100) || !in(what, 0, 1)) {
            return BAD;
        }
        if (story == null) {
            return STATE;
        }
        int fewest = tries(Set.of(from), to);
        if (what == 0) {
            return fewest;
        }
        if (fewest > 0) {
            for (int r = 0; r < story.ropes.size(); r++) {
                if (tries(Set.of(tried(from, story.ropes.get(r))), to) == fewest - 1) {
                    return r;
                }
            }
        }
        return NONE;
    }

    long film(int row, int i, int n) {
        if (!in(row, 0, 7) || !in(n, 1, 20)) {
            return BAD;
        }
        if (story == null) {
            return STATE;
        }
        if (rows[row] == null) {
            return found(1);
        }
        if (i < 0 || (long) i + n > rows[row].length) {
            return found(2);
        }
        int bits = 0;
        for (int up = 1; up <= 3; up++) {
            for (int let = 0; let <= 8; let += 4) {
                Live l = Live.FIRST;
                boolean same = true;
                for (int k = 0; k < n; k++) {
                    l = stuck(l) ? l : ticked(l, false, up, let, spinBehind(l, up));
                    same &= l.size == rows[row][i + k];
                }
                if (same) {
                    bits += 1 << 3 * (up - 1) + let / 4;
                }
            }
        }
        return well(bits);
    }

    long image(int k) {
        if (!in(k, 0, 1)) {
            return BAD;
        }
        if (story == null) {
            return STATE;
        }
        images[k] = new Object[] {story, live, rope, horse};
        return 1;
    }

    long restore(int k) {
        if (!in(k, 0, 1)) {
            return BAD;
        }
        if (images[k] == null) {
            return STATE;
        }
        story = (Story) images[k][0];
        live = (Live) images[k][1];
        rope = (Integer) images[k][2];
        horse = (Integer) images[k][3];
        return 1;
    }

    long kind(int act) {
        return noAct(act) ? BAD : story.acts.get(act).kind();
    }

    long as(int act, int kind) {
        if (noAct(act) || !in(kind, 0, 6)) {
            return BAD;
        }
        Class<?>[] kinds = {Act.class, Looped.class, Spun.class, Standing.class, Thrown.class, Edged.class,
            Closing.class};
        return kinds[kind].isInstance(story.acts.get(act)) ? well(act) : found(3);
    }

    long ask(int act, int what) {
        if (noAct(act) || !in(what, 0, 1)) {
            return BAD;
        }
        traced = new ArrayList<>();
        Act a = story.acts.get(act);
        return what == 0 ? a.size() : a.mark();
    }

    int trace(int i) {
        return in(i, 0, Math.min(16, traced.size()) - 1) ? traced.get(i) : NONE;
    }

    long count(int what) {
        Story s = story == null ? new Story() : story;
        switch (what) {
            case 0: {
                int there = 0;
                for (int[] r : rows) {
                    there += r == null ? 0 : 1;
                }
                return there;
            }
            case 1:
                return s.ropes.size();
            case 2:
                return s.horses.size();
            case 3:
                return s.beasts.size();
            case 4:
                return s.forms.size();
            case 5:
                return s.acts.size();
            case 6:
                return s.acts.stream().filter(a -> a instanceof Thrown).count();
            case 7:
                return tape.length();
            case 8:
                return (images[0] == null ? 0 : 1) + (images[1] == null ? 0 : 1);
            default:
                return BAD;
        }
    }

    int status() {
        return finding;
    }
}
