import java.lang.management.ManagementFactory;
import java.lang.reflect.Constructor;
import java.lang.reflect.Field;
import java.lang.reflect.Method;
import java.lang.reflect.Modifier;
import java.nio.file.Files;
import java.nio.file.Path;
import java.util.ArrayList;
import java.util.HashSet;
import java.util.List;
import java.util.Set;
import java.util.TreeSet;
import java.util.regex.Matcher;
import java.util.regex.Pattern;

/** The rules of LANGUAGE.md that a test can see: the face, the words of the source, the room. */
public final class SpunLoopLanguage {
    private static final String[] FACE = {
        "long row(int,int,int)", "long set(int,int,int)", "long copy(int,int,int,int,int)", "long drop(int)",
        "long feed(long,int)", "long way()", "int fault()", "long act(int,int)", "long take(int,int)",
        "long tick(int,int,int,int)", "long hurl(int,int)", "long close()", "long now(int)", "long piece(int)",
        "long odds(int,int,int)", "long need(int)", "long greatest(int)", "long out(int,int)", "long wraps(int,int)",
        "long told(int,int)", "long all(int)", "long score()", "long best(int,int)", "long moves(int,int)",
        "long fewest(int,int)", "long show(int)", "long learn(int,int,int)", "long film(int,int,int)",
        "long image(int)", "long restore(int)", "long kind(int)", "long as(int,int)", "long ask(int,int)",
        "int trace(int)", "long count(int)", "int status()"};
    private static final String[] NOT_USED = {"throw", "throws", "try", "catch", "finally", "synchronized", "assert",
        "package", "protected", "volatile", "transient", "native", "strictfp", "Object", "Thread", "Random",
        "HashMap", "HashSet", "Map", "Optional", "Stream", "hashCode", "toString", "nanoTime", "currentTimeMillis",
        "var", "default void", "equals", "float", "double"};

    private static int wrong = 0;

    private static void fails(String what) {
        wrong++;
        System.out.println(what);
    }

    public static void main(String[] args) throws Exception {
        face();
        List<String> lines = Files.readAllLines(Path.of("src/main/java/SpunLoop.java"));
        words(lines);
        methods(lines);
        classes();
        room();
        System.out.println(wrong == 0 ? "the rules are kept" : wrong + " rules are broken");
        if (wrong != 0) {
            System.exit(1);
        }
    }

    private static void face() {
        Set<String> due = new TreeSet<>(List.of(FACE));
        Set<String> publicNames = new HashSet<>();
        for (Method m : SpunLoop.class.getDeclaredMethods()) {
            if (!Modifier.isPrivate(m.getModifiers()) && !m.isSynthetic()) {
                List<String> types = new ArrayList<>();
                for (Class<?> type : m.getParameterTypes()) {
                    types.add(type.getName());
                }
                String told = m.getReturnType().getName() + " " + m.getName() + "(" + String.join(",", types) + ")";
                publicNames.add(m.getName());
                if (!due.remove(told) || !Modifier.isPublic(m.getModifiers())) {
                    fails("not of the face: " + told);
                }
            }
        }
        due.forEach(told -> fails("missing from the face: " + told));
        for (Field f : SpunLoop.class.getDeclaredFields()) {
            boolean constant = f.getName().equals("NONE") || f.getName().equals("NOT");
            if (constant != Modifier.isPublic(f.getModifiers()) || !constant && !Modifier.isPrivate(f.getModifiers())) {
                fails("a field that should not be seen: " + f);
            }
        }
        Constructor<?>[] made = SpunLoop.class.getDeclaredConstructors();
        if (made.length != 1 || !Modifier.isPublic(made[0].getModifiers()) || made[0].getParameterCount() != 0) {
            fails("the constructor is not as told");
        }
        if (!Modifier.isFinal(SpunLoop.class.getModifiers()) || !Modifier.isPublic(SpunLoop.class.getModifiers())) {
            fails("the class is not public and final");
        }
        for (Class<?> c : allClasses()) {
            for (Method m : c.getDeclaredMethods()) {
                if (Modifier.isPrivate(m.getModifiers()) && publicNames.contains(m.getName())) {
                    fails("a private method with a public one's name: " + m);
                }
            }
        }
    }

    private static List<Class<?>> allClasses() {
        List<Class<?>> all = new ArrayList<>(List.of(SpunLoop.class.getDeclaredClasses()));
        all.add(SpunLoop.class);
        return all;
    }

    private static void classes() {
        if (allClasses().size() > 12) {
            fails("more than twelve classes: " + allClasses().size());
        }
        for (Class<?> c : allClasses()) {
            int fields = 0;
            for (Field f : c.getDeclaredFields()) {
                if (!Modifier.isStatic(f.getModifiers())) {
                    fields++;
                } else if (!Modifier.isFinal(f.getModifiers())) {
                    fails("a static field that is not final: " + f);
                }
            }
            if (fields > 20) {
                fails("more than twenty fields: " + c);
            }
            if (c != SpunLoop.class && !Modifier.isStatic(c.getModifiers())) {
                fails("a class inside that is not static: " + c);
            }
            for (Method m : c.getDeclaredMethods()) {
                if (m.getParameterCount() > 7) {
                    fails("more than seven parameters: " + m);
                }
            }
        }
    }

    private static String bare(String line) {
        return line.replaceAll("\"[^\"]*\"", "\"\"").replaceAll("//.*", "").replaceAll("/?\\*\\*? .*", "");
    }

    private static void words(List<String> lines) {
        for (int k = 0; k < lines.size(); k++) {
            String line = bare(lines.get(k));
            for (String word : NOT_USED) {
                if (Pattern.compile("\\b" + word + "\\b").matcher(line).find()) {
                    fails("line " + (k + 1) + " uses " + word);
                }
            }
            if (line.contains("->") || line.contains("::") || line.contains("@")) {
                fails("line " + (k + 1) + ": a lambda, a method reference or an annotation");
            }
            if (line.startsWith("import") && !line.equals("import java.util.Arrays;")) {
                fails("line " + (k + 1) + ": an import");
            }
            if (!line.chars().allMatch(c -> c >= 32 && c < 127)) {
                fails("line " + (k + 1) + ": a sign that is not plain");
            }
        }
    }

    private static void methods(List<String> lines) {
        Pattern head = Pattern.compile("^( {4}| {8})(?! )[a-zA-Z].*\\) \\{$");
        for (int k = 0; k < lines.size(); k++) {
            Matcher m = head.matcher(lines.get(k));
            if (m.find()) {
                int end = k;
                while (end < lines.size() && !lines.get(end).equals(m.group(1) + "}")) {
                    end++;
                }
                if (end - k > 60) {
                    fails("line " + (k + 1) + ": a method of more than sixty lines");
                }
            }
        }
    }

    /** What the dearest calls make: a run of 512 of them has some 7.3 million elements for all. */
    private static void room() {
        com.sun.management.ThreadMXBean bean = (com.sun.management.ThreadMXBean) ManagementFactory.getThreadMXBean();
        String text = "rope 400 9 0;horse 1 5 3;beast 60 0 30 2 4;beast 60 0 30 2 4;beast 60 0 30 2 4;form 1 9 0 99;"
            + "form 1 9 0 99;form 1 9 0 99;form 1 9 0 99;spin 40 3 9 9;flat 0;edge 1;";
        long before = bean.getThreadAllocatedBytes(Thread.currentThread().getId());
        SpunLoop x = new SpunLoop();
        int calls = 0;
        while (calls < 480) {
            for (int at = 0; at < text.length(); at += 8) {
                long w = 0;
                int n = Math.min(8, text.length() - at);
                for (int k = 0; k < n; k++) {
                    w = w << 8 | text.charAt(at + k);
                }
                x.feed(w, n);
            }
            x.way();
            x.row(calls % 8, 2, 40);
            x.film(calls % 8, 0, 20);
            x.moves(5, -1);
            x.fewest(200, 12);
            x.show(-1);
            x.learn(0, 100, 1);
            x.all(0);
            x.best(1, 0);
            x.image(0);
            x.restore(0);
            x.ask(0, 1);
            calls += (text.length() + 7) / 8 + 12;
        }
        long made = bean.getThreadAllocatedBytes(Thread.currentThread().getId()) - before;
        if (made > 400000) {
            fails("a run of calls made " + made + " bytes");
        }
    }
}
