import java.io.IOException;
import java.lang.reflect.Constructor;
import java.lang.reflect.Field;
import java.lang.reflect.Method;
import java.lang.reflect.Modifier;
import java.nio.file.Files;
import java.nio.file.Path;
import java.util.ArrayList;
import java.util.Arrays;
import java.util.HashSet;
import java.util.List;
import java.util.Set;
import java.util.regex.Matcher;
import java.util.regex.Pattern;
import java.util.stream.Stream;

/** The public face as the document gives it, and what can be looked at of LANGUAGE.md's rules. */
public final class FaceTest {
    private static final Path DOCUMENT = Path.of("../shared/DOC.md");
    private static final String[] FACE = {
        "int wearer(int,int,int)", "int thing(int,int)", "int of(int,int)", "int at(int,int)",
        "int think(int,int)", "int leave(int,boolean)", "int fetch(int)", "int drop(int,int)",
        "int row(int,int,int)", "int feed(int)", "int town()", "int told(int)", "int pass(int)",
        "int on(int,int)", "int when(int,int)", "int chain(int)", "int best(int)", "int fetched(int)",
        "int deepen(int,int)", "int see(int,int,int)", "int lay(int,int)", "int can(int,int)",
        "long odds(int,int,int)", "long mean(int,int)", "int week(int,int)", "int ends(int)",
        "int book(int,int)", "int looked()", "int judge(int,int)", "int image()", "int undo()",
        "int act(int,int,int)", "int trace(int)", "int taken(int,int)", "int count(int)",
        "int tape(int,int,int)", "int item(int,int,long)", "long read(int,int)",
        "int shift(int,int,int,int,int)",
    };

    // Of what LANGUAGE.md's rule 4 leaves, that which a class without lists may need.
    private static final Set<String> LIBRARY = Set.of(
        "java.lang.Object.<init>", "java.lang.String.length", "java.lang.String.charAt", "java.lang.String.isEmpty",
        "java.lang.String.equals", "java.lang.String.indexOf", "java.lang.String.substring",
        "java.lang.Math.max", "java.lang.Math.min", "java.lang.Math.abs", "java.lang.Math.floorMod",
        "java.lang.Math.floorDiv", "java.lang.Integer.bitCount", "java.lang.Integer.compare",
        "java.lang.System.arraycopy", "java.util.Arrays.copyOf", "java.util.Arrays.copyOfRange",
        "java.util.Arrays.fill");

    public static void main(String[] args) throws IOException {
        constants();
        methods();
        classesInside();
        fields();
        library();
        String source = Files.readString(Path.of("src/main/java/DeepWearer.java"));
        source(source);
        faceOfTheDocument(source);
        headings(source);
        Due.end();
    }

    private static void constants() {
        Due.is("NONE", DeepWearer.NONE, -1);
        Due.is("BAD", DeepWearer.BAD, -2);
        Due.is("STATE", DeepWearer.STATE, -3);
        Due.is("FULL", DeepWearer.FULL, -4);
        Due.is("NO", DeepWearer.NO, Long.MIN_VALUE);
        Set<String> shown = new HashSet<>();
        for (Field f : DeepWearer.class.getDeclaredFields()) {
            if (!Modifier.isPrivate(f.getModifiers())) {
                shown.add(f.getType() + " " + f.getName());
                Due.is("constant " + f.getName(), f.getModifiers(), Modifier.PUBLIC | Modifier.STATIC | Modifier.FINAL);
            }
        }
        Due.holds("the constants are the document's",
            shown.equals(Set.of("int NONE", "int BAD", "int STATE", "int FULL", "long NO")));
    }

    private static String signature(Method m) {
        StringBuilder s = new StringBuilder();
        for (Class<?> type : m.getParameterTypes()) {
            s.append(s.length() == 0 ? "" : ",").append(type.getName());
        }
        return m.getReturnType().getName() + " " + m.getName() + "(" + s + ")";
    }

    private static void methods() {
        Set<String> shown = new HashSet<>();
        for (Method m : DeepWearer.class.getDeclaredMethods()) {
            if (!Modifier.isPrivate(m.getModifiers())) {
                shown.add(signature(m));
                Due.is("method " + m.getName(), m.getModifiers(), Modifier.PUBLIC);
            }
        }
        Due.holds("the methods are the document's", shown.equals(Set.of(FACE)));
        Constructor<?>[] made = DeepWearer.class.getDeclaredConstructors();
        Due.is("constructors", made.length, 1);
        Due.is("its modifiers", made[0].getModifiers(), Modifier.PUBLIC);
        Due.is("its parameters", made[0].getParameterCount(), 0);
        Due.is("the class", DeepWearer.class.getModifiers(), Modifier.PUBLIC | Modifier.FINAL);
        Due.holds("no package", DeepWearer.class.getPackageName().isEmpty());
    }

    private static void classesInside() {
        Set<String> faceNames = new HashSet<>();
        for (String call : FACE) {
            faceNames.add(call.substring(call.indexOf(' ') + 1, call.indexOf('(')));
        }
        List<Class<?>> classes = classes();
        Due.holds("some twelve classes", classes.size() <= 12);
        for (Class<?> c : classes) {
            Due.holds(c + " is static", c == DeepWearer.class || Modifier.isStatic(c.getModifiers()));
            Due.holds(c + " is not shown", c == DeepWearer.class || Modifier.isPrivate(c.getModifiers()));
            int fields = 0;
            for (Field f : c.getDeclaredFields()) {
                fields += Modifier.isStatic(f.getModifiers()) ? 0 : 1;
                Due.holds(f + " is final, if static",
                    !Modifier.isStatic(f.getModifiers()) || Modifier.isFinal(f.getModifiers()));
            }
            Due.holds(c + " has some twenty fields", fields <= 20);
            for (Method m : c.getDeclaredMethods()) {
                Due.holds(m + " takes at most seven", m.getParameterCount() <= 7);
                Due.holds(m + " bears no public one's name",
                    Modifier.isPublic(m.getModifiers()) || !faceNames.contains(m.getName()));
            }
        }
    }

    private static List<Class<?>> classes() {
        List<Class<?>> classes = new ArrayList<>(Arrays.asList(DeepWearer.class.getDeclaredClasses()));
        classes.add(DeepWearer.class);
        return classes;
    }

    private static void fields() {
        Set<Class<?>> statics = Set.of(int.class, long.class, boolean.class, char.class, String.class,
            int[].class, long[].class, char[].class, byte[].class);
        for (Class<?> c : classes()) {
            for (Field f : c.getDeclaredFields()) {
                Class<?> type = f.getType();
                Class<?> item = type.isArray() ? type.getComponentType() : type;
                Due.holds(f + " is of a static field's types",
                    !Modifier.isStatic(f.getModifiers()) || statics.contains(type));
                Due.holds(f + " is of numbers, texts, own classes or rows of them",
                    item.isPrimitive() || item == String.class || item == StringBuilder.class || classes().contains(item));
            }
        }
    }

    /** What of the library the compiled classes name, and that javac made no class beside those that are written. */
    private static void library() throws IOException {
        Path made = Path.of(System.getProperty("java.class.path"));
        List<Path> files = new ArrayList<>();
        try (Stream<Path> all = Files.list(made)) {
            all.filter(f -> f.getFileName().toString().matches("DeepWearer(\\$.*)?\\.class")).forEach(files::add);
        }
        Due.is("classes that were compiled", files.size(), classes().size());
        for (Path file : files) {
            ClassFile compiled = new ClassFile(file);
            Due.holds(file.getFileName() + " has no lambda and joins no texts by +", !compiled.isDynamic());
            for (String member : compiled.members()) {
                Due.holds(file.getFileName() + " may use " + member,
                    member.startsWith("DeepWearer") || LIBRARY.contains(member));
            }
        }
    }

    private static void source(String text) {
        String code = text.replaceAll("(?s)/\\*.*?\\*/", "").replaceAll("//[^\n]*", "");
        Matcher strange = Pattern.compile("[^\\x00-\\x7f]").matcher(text);
        Due.holds("ASCII alone", !strange.find());
        String[] words = {"package", "throw", "throws", "try", "catch", "synchronized", "assert", "record", "hashCode", "toString", "Object", "volatile", "native", "transient",
            "Thread", "Random", "currentTimeMillis", "nanoTime", "getenv", "HashMap", "\\w+Exact"};
        for (String word : words) {
            Due.holds("the code has no " + word, !Pattern.compile("\\b" + word + "\\b").matcher(code).find());
        }
        Due.holds("no static initialiser block", !Pattern.compile("static\\s*\\{").matcher(code).find());
        Due.holds("no lambda, no method reference", !code.contains("->") && !code.contains("::"));
        Due.holds("texts are not joined by +", !Pattern.compile("\"\\s*\\+|\\+\\s*\"").matcher(code).find());
        Matcher imports = Pattern.compile("import\\s+([^;]+);").matcher(code);
        while (imports.find()) {
            Due.holds("import " + imports.group(1), imports.group(1).matches("java\\.util\\.(Arrays|ArrayList|List|Iterator)"));
        }
        methodsAreShort(code);
    }

    /** Every line of the document's face stands in the class, with the names of what the calls take. */
    private static void faceOfTheDocument(String source) throws IOException {
        int calls = 0;
        for (String line : Passages.blocks(DOCUMENT, "java").get(0).split("\n")) {
            String said = line.trim().replace(");", ") {");
            calls += line.endsWith(");") ? 1 : 0;
            Due.holds("the class has, as the document: " + said, source.contains(said));
        }
        Due.is("calls of the document's face, and the constructor", calls, FACE.length + 1);
    }

    /** The headings of the interface stand ahead of the calls that the document names, in its order. */
    private static void headings(String source) throws IOException {
        List<String> due = new ArrayList<>();
        Matcher said = Pattern.compile("Ahead of the calls (.*) the interface says: (---- .*)\\.")
            .matcher(Files.readString(DOCUMENT));
        while (said.find()) {
            due.add(said.group(2));
            due.addAll(List.of(said.group(1).replace("`", "").split(", ")));
        }
        List<String> got = new ArrayList<>();
        Matcher line = Pattern.compile("(?m)^    (?:// (---- .*)|public (?:int|long) (\\w+)\\(.*)$").matcher(source);
        while (line.find()) {
            got.add(line.group(1) != null ? line.group(1) : line.group(2));
        }
        Due.is("headings and calls that the document names", due.size(), FACE.length + 6);
        Due.holds("the interface says " + due + ", not " + got, got.equals(due));
    }

    private static void methodsAreShort(String code) {
        String[] lines = code.split("\n");
        int opened = -1;
        String indent = "";
        for (int n = 0; n < lines.length; n++) {
            Matcher begins = Pattern.compile("^(\\s+)(?:public|private)[^;=]*\\([^;]*\\)\\s*\\{$").matcher(lines[n]);
            if (begins.find()) {
                opened = n;
                indent = begins.group(1);
            }
            if (opened >= 0 && lines[n].equals(indent + "}")) {
                String head = lines[opened].trim();
                Due.holds("sixty lines at most: " + head, n - opened < 60);
                boolean makes = String.join("\n", Arrays.copyOfRange(lines, opened, n)).matches("(?s).*\\bnew\\b.*");
                Due.holds("only a constructor makes anything: " + head,
                    !makes || head.matches("(public|private) \\w+\\(.*"));
                opened = -1;
            }
        }
    }
}
