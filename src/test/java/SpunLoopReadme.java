import java.io.File;
import java.io.IOException;
import java.lang.reflect.Method;
import java.net.URL;
import java.net.URLClassLoader;
import java.nio.file.Files;
import java.nio.file.Path;
import java.util.ArrayList;
import java.util.List;
import java.util.Set;
import java.util.TreeSet;
import java.util.regex.Matcher;
import java.util.regex.Pattern;
import javax.tools.JavaCompiler;
import javax.tools.ToolProvider;

/**
 * What README.md shows of the class: its blocks of Java are put together into one program, in which each
 * call that stands there must give the answer that stands behind it.
 */
public final class SpunLoopReadme {
    private static final Path README = Path.of("README.md");
    /** A call with the answer behind it, and perhaps a colon and what the answer means. */
    private static final Pattern SHOWN = Pattern.compile("^x\\.(\\w+)\\((.*)\\); *// ([^:]+?) *(:.*)?$");
    private static final Pattern FILE = Pattern.compile("`((?:src/|\\.ci/)[^` *]*)`");

    private static final Set<String> CALLED = new TreeSet<>();
    private static int wrong = 0;
    private static int answers = 0;

    private static void fails(String what) {
        wrong++;
        System.out.println(what);
    }

    /** Called by the program that is put together. */
    public static void due(int line, long got, long want) {
        answers++;
        if (got != want) {
            fails("README.md:" + line + ": shows " + want + ", but the class answers " + got);
        }
    }

    public static void main(String[] args) throws Exception {
        List<String> lines = Files.readAllLines(README);
        run(program(lines));
        face();
        files(String.join("\n", lines));
        System.out.println(answers + " answers of README.md, " + wrong + " wrong");
        if (wrong != 0) {
            System.exit(1);
        }
    }

    private static String program(List<String> lines) {
        List<String> methods = new ArrayList<>();
        List<String> steps = new ArrayList<>();
        List<String> block = null;
        for (int k = 0; k < lines.size(); k++) {
            String line = lines.get(k);
            if (line.startsWith("```")) {
                boolean opens = block == null && line.equals("```java");
                boolean method = opens && k + 1 < lines.size() && lines.get(k + 1).startsWith("static ");
                block = opens ? method ? methods : steps : null;
            } else if (block == steps) {
                block.add(step(k + 1, line));
            } else if (block != null) {
                block.add(line);
            }
        }
        return "public final class Shown {\n"
            + "static final int NONE = SpunLoop.NONE;\nstatic final long NOT = SpunLoop.NOT;\n"
            + String.join("\n", methods) + "\npublic static void run() {\n" + String.join("\n", steps) + "\n}\n}\n";
    }

    private static String step(int number, String line) {
        Matcher m = SHOWN.matcher(line);
        if (m.matches()) {
            CALLED.add(m.group(1));
            return "SpunLoopReadme.due(" + number + ", x." + m.group(1) + "(" + m.group(2) + "), " + m.group(3) + ");";
        }
        if (line.startsWith("x.")) {
            fails("README.md:" + number + ": a call without its answer: " + line);
        }
        return line;
    }

    private static void run(String program) throws Exception {
        JavaCompiler compiler = ToolProvider.getSystemJavaCompiler();
        if (compiler == null) {
            fails("there is no javac to compile with what README.md shows");
            return;
        }
        Path folder = Files.createTempDirectory("readme");
        Path source = folder.resolve("Shown.java");
        Path made = folder.resolve("Shown.class");
        try {
            Files.writeString(source, program);
            String known = System.getProperty("java.class.path");
            if (compiler.run(null, null, null, "-cp", known, "-d", folder.toString(), source.toString()) != 0) {
                fails("what README.md shows does not compile");
                return;
            }
            try (URLClassLoader loader = new URLClassLoader(new URL[] {folder.toUri().toURL()})) {
                Method shown = loader.loadClass("Shown").getMethod("run");
                shown.invoke(null);
            }
        } finally {
            Files.deleteIfExists(source);
            Files.deleteIfExists(made);
            Files.deleteIfExists(folder);
        }
    }

    /** Each call of the face is shown at least once. */
    private static void face() {
        for (Method m : SpunLoop.class.getMethods()) {
            if (m.getDeclaringClass() == SpunLoop.class && !CALLED.contains(m.getName())) {
                fails("README.md does not show " + m.getName());
            }
        }
    }

    /** The files that it names are there, and it names all tests. */
    private static void files(String readme) throws IOException {
        Matcher m = FILE.matcher(readme);
        while (m.find()) {
            if (!Files.exists(Path.of(m.group(1)))) {
                fails("README.md names " + m.group(1) + ", which is not there");
            }
        }
        File[] tests = new File("src/test/java").listFiles();
        for (File test : tests == null ? new File[0] : tests) {
            if (!readme.contains("`" + test.getName().replace(".java", "") + "`") && !readme.contains(test.getName())) {
                fails("README.md does not name " + test.getName());
            }
        }
    }
}
