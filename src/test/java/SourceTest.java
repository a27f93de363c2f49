import com.sun.source.tree.CompilationUnitTree;
import com.sun.source.util.JavacTask;
import com.sun.source.util.Trees;
import java.io.IOException;
import java.nio.file.Files;
import java.nio.file.Path;
import java.util.HashSet;
import java.util.List;
import java.util.Map;
import java.util.Set;
import java.util.TreeMap;
import javax.tools.JavaCompiler;
import javax.tools.StandardJavaFileManager;
import javax.tools.ToolProvider;

/** The rules of LANGUAGE.md that the compiler's own reading of the source can tell, and that breaking them is told. */
public final class SourceTest {
    private static final String SOURCE = "src/main/java/FigurePlay.java";
    private static final int MOST_DEEP = 8;

    public static void main(String[] args) throws IOException {
        Path source = Path.of(SOURCE);
        SourceRules rules = read(source);
        for (String broken : rules.broken) {
            Due.holds(broken, false);
        }
        Due.holds("methods were seen", rules.calls.size() > 50);
        Due.holds("signs 1 to 127 alone", Files.readString(source).chars().allMatch(c -> c > 0 && c < 128));
        recursion(rules);
        for (String method : rules.calls.keySet()) {
            Due.holds(method + " goes at most eight deep", deep(rules.calls, method, new HashSet<>()) <= MOST_DEEP);
        }
        breakingIsTold();
        Due.end("SourceTest");
    }

    private static SourceRules read(Path source) throws IOException {
        JavaCompiler compiler = ToolProvider.getSystemJavaCompiler();
        try (StandardJavaFileManager files = compiler.getStandardFileManager(null, null, null)) {
            List<String> options = List.of("-proc:none");
            JavacTask task = (JavacTask) compiler.getTask(null, files, null, options, null,
                files.getJavaFileObjects(source.toFile()));
            Iterable<? extends CompilationUnitTree> units = task.parse();
            task.analyze();
            SourceRules rules = new SourceRules(Trees.instance(task));
            LoopRules loops = new LoopRules(Trees.instance(task));
            for (CompilationUnitTree unit : units) {
                rules.scan(unit, null);
                loops.scan(unit, null);
            }
            rules.broken.addAll(loops.endless());
            return rules;
        }
    }

    /** How many methods stand open at once, the first one counted; one that calls itself counts once. */
    private static int deep(Map<String, Set<String>> calls, String method, Set<String> open) {
        if (!open.add(method)) {
            return 0;
        }
        int most = 0;
        for (String called : calls.getOrDefault(method, Set.of())) {
            most = Math.max(most, deep(calls, called, open));
        }
        open.remove(method);
        return most + 1;
    }

    private static void recursion(SourceRules rules) {
        for (String method : rules.calls.keySet()) {
            Set<String> reached = new HashSet<>();
            reach(rules.calls, method, reached);
            boolean comesBack = reached.contains(method);
            boolean known = method.equals("Narrows.take");
            Due.holds(method + " calls itself only if it is known to be no deeper than six", comesBack == known);
        }
    }

    private static void reach(Map<String, Set<String>> calls, String method, Set<String> reached) {
        for (String called : calls.getOrDefault(method, Set.of())) {
            if (reached.add(called)) {
                reach(calls, called, reached);
            }
        }
    }

    /** A rule that can't be broken is no rule: each of these lines must be told by the words beside it. */
    private static void breakingIsTold() throws IOException {
        Map<String, String> lines = new TreeMap<>();
        lines.put("int a(int x) { throw new IllegalArgumentException(); }", "THROW");
        lines.put("int a(int x) { try { return x; } finally { x = 0; } }", "TRY");
        lines.put("Runnable a() { return () -> { }; }", "LAMBDA");
        lines.put("int a(int x) { return Math.addExact(x, 1); }", "addExact");
        lines.put("long a() { return System.nanoTime(); }", "nanoTime");
        lines.put("int a(int[][][] x) { return 0; }", "dimensions");
        lines.put("void a() { for (;;) { } }", "no bound");
        lines.put("void a() { while (true) { } }", "no bound");
        lines.put("void a(int x) { do { x++; } while (x != 7); }", "no bound");
        lines.put("void a(int x) { for (int k = 0; k < x; k++) { x++; } }", "no bound");
        lines.put("int m; void b() { m++; } void a() { for (int k = 0; k < m; k++) { b(); } }", "no bound");
        lines.put("int m; void b() { m++; } void a() { while (m < 9) { b(); } }", "no bound");
        lines.put("static int a = 3;", "static");
        lines.put("static { }", "static");
        lines.put("class A { }", "static");
        lines.put("int a(Object x) { return 0; }", "type");
        lines.put("String a(String x, int y) { return x + y; }", "joins");
        lines.put("private int a(int b, int c, int d, int e, int f, int g, int h, int i) { return 0; }", "seven");
        lines.put("int a(int x) {" + "\n".repeat(62) + " return x; }", "long");
        Path folder = Files.createTempDirectory("source");
        Path file = folder.resolve("Broken.java");
        for (Map.Entry<String, String> line : lines.entrySet()) {
            Files.writeString(file, "public final class Broken {\n" + line.getKey() + "\n}\n");
            Due.holds("told: " + line.getKey().trim(), toldBy(read(file), line.getValue()));
        }
        Files.writeString(file, "public final class Broken {\n" + callsInARow(9) + "}\n");
        SourceRules rules = read(file);
        Due.is("nothing else is wrong with them", rules.broken.size(), 0);
        Due.is("nine methods, each of which calls the next", deep(rules.calls, "Broken.a1", new HashSet<>()), 9);
        Files.delete(file);
        Files.delete(folder);
    }

    private static String callsInARow(int most) {
        StringBuilder text = new StringBuilder();
        for (int k = 1; k < most; k++) {
            text.append("int a" + k + "() { return a" + (k + 1) + "(); }\n");
        }
        return text.append("int a" + most + "() { return 0; }\n").toString();
    }

    private static boolean toldBy(SourceRules rules, String word) {
        for (String broken : rules.broken) {
            if (broken.contains(word)) {
                return true;
            }
        }
        return false;
    }
}
