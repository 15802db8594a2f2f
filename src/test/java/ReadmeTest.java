import java.io.IOException;
import java.net.URL;
import java.net.URLClassLoader;
import java.nio.file.Files;
import java.nio.file.Path;
import java.util.Comparator;
import java.util.List;
import java.util.Set;
import java.util.TreeSet;
import java.util.regex.Matcher;
import java.util.regex.Pattern;
import java.util.stream.Collectors;
import java.util.stream.Stream;
import javax.tools.ToolProvider;

/** What README.md says is so: its Java answers as its comments tell, its list of tests is whole. */
public final class ReadmeTest {
    static final Path README = Path.of("README.md");

    private static final Pattern ANSWERED = Pattern.compile("^(.*?)(x\\.\\w+\\(.*\\)); *// (-?\\w+)(?:: .*|;.*|$)");
    private static final Pattern ROW = Pattern.compile("\\| (\\w+) \\| .* \\|");

    public static void main(String[] args) throws Exception {
        List<String> blocks = Passages.blocks(README, "java");
        Due.holds("README.md has Java", !blocks.isEmpty());
        Path made = Files.createTempDirectory("readme");
        try {
            run(made, source(blocks));
        } finally {
            remove(made);
        }
        tests();
        Due.end();
    }

    /** A class that runs each block by itself; what a comment tells of a call is compared with its answer. */
    private static String source(List<String> blocks) {
        StringBuilder s = new StringBuilder("public final class Readme {\n");
        s.append("static long due(String call, long got, long want) { ReadmeTest.due(call, got, want); return got; }\n");
        StringBuilder all = new StringBuilder("public static void main(String[] args) {\n");
        for (int n = 0; n < blocks.size(); n++) {
            s.append("static void block").append(n).append("() {\n").append(body(blocks.get(n))).append("}\n");
            all.append("block").append(n).append("();\n");
        }
        return s.append(all).append("}\n}\n").toString();
    }

    private static String body(String block) {
        StringBuilder s = new StringBuilder();
        for (String line : block.split("\n")) {
            Matcher m = ANSWERED.matcher(line);
            Due.holds("behind // stands an answer: " + line, m.matches() || !line.contains("//"));
            s.append(m.matches() ? compared(m.group(1), m.group(2), m.group(3)) : line).append('\n');
        }
        return s.toString();
    }

    private static String compared(String ahead, String call, String answer) {
        String due = "due(\"" + call + "\", " + call + ", " + Call.number(answer) + "L);";
        return ahead.isBlank() ? due : ahead + "(int) " + due;
    }

    // Public, for Readme has another loader, and so is of another package than this class.
    public static void due(String call, long got, long want) {
        Due.is("README.md: " + call, got, want);
    }

    private static void run(Path made, String source) throws Exception {
        Path file = made.resolve("Readme.java");
        Files.writeString(file, source);
        int failed = ToolProvider.getSystemJavaCompiler().run(null, null, null,
            "-cp", System.getProperty("java.class.path"), "-d", made.toString(), file.toString());
        Due.is("README.md's Java is compiled: errors", failed, 0);
        if (failed != 0) {
            return;
        }
        try (URLClassLoader loader = new URLClassLoader(new URL[] {made.toUri().toURL()})) {
            loader.loadClass("Readme").getMethod("main", String[].class).invoke(null, (Object) new String[0]);
        }
    }

    private static void remove(Path made) throws IOException {
        try (Stream<Path> all = Files.walk(made)) {
            for (Path file : all.sorted(Comparator.reverseOrder()).collect(Collectors.toList())) {
                Files.delete(file);
            }
        }
    }

    private static void tests() throws IOException {
        Set<String> told = new TreeSet<>();
        for (String line : Files.readAllLines(README)) {
            Matcher m = ROW.matcher(line);
            if (m.matches() && !m.group(1).equals("test")) {
                told.add(m.group(1));
            }
        }
        Set<String> there = new TreeSet<>();
        try (Stream<Path> files = Files.list(Path.of("src/test/java"))) {
            files.map(f -> f.getFileName().toString()).filter(f -> f.endsWith("Test.java"))
                .forEach(f -> there.add(f.replace(".java", "")));
        }
        Due.holds("README.md's tests " + told + " are those that are there: " + there, told.equals(there));
    }
}
