import java.io.IOException;
import java.nio.file.Files;
import java.nio.file.Path;
import java.util.ArrayList;
import java.util.LinkedHashMap;
import java.util.List;
import java.util.Map;
import java.util.regex.Matcher;
import java.util.regex.Pattern;
import java.util.stream.Collectors;
import java.util.stream.Stream;

/**
 * Plays the tables under src/test/bounds (README.md tells their form): passages of the document, each
 * with calls that would answer otherwise, were it broken. Every word of the document's terms and
 * promises stands in a passage of a table.
 */
public final class BoundsTest {
    private static final Path TABLES = Path.of("src/test/bounds");
    private static final Path DOCUMENT = Path.of("../shared/DOC.md");
    private static final int CALLS_MOST = 512;

    private static final Pattern PASSAGE = Pattern.compile("== (\\w+): (.*)");
    private static final Pattern SCENE = Pattern.compile("-- (\\w+)");
    private static final Pattern WITH = Pattern.compile("with (\\w+)");
    private static final Pattern FEED = Pattern.compile("feed \"(.*)\"");
    private static final Pattern TOWN = Pattern.compile("town \"(.*)\" = (\\S+)");
    private static final Pattern CALLS =
        Pattern.compile("(! )?(?:(\\d+) x )?(" + Call.FORM + ") = ([\\w-]+)(?:\\.\\.([\\w-]+))?");

    private final Passages passages = new Passages(DOCUMENT);
    private final Map<String, List<String>> scenes = new LinkedHashMap<>();
    private final List<List<Call>> groups = Probes.groups();
    private final List<Call> probes = new ArrayList<>();

    private String place = "";
    private DeepWearer x = new DeepWearer();
    private int calls = 0;
    // The calls so far that may have changed something.
    private final List<Call> changes = new ArrayList<>();

    private BoundsTest() throws IOException {
        groups.forEach(probes::addAll);
    }

    public static void main(String[] args) throws IOException {
        BoundsTest test = new BoundsTest();
        test.readScenes(TABLES.resolve("scenes.txt"));
        for (Path table : tables()) {
            test.play(table.getFileName().toString(), linesOf(table));
        }
        for (String table : Passages.blocks(ReadmeTest.README, "table")) {
            test.play("a table of " + ReadmeTest.README, linesOf(List.of(table.split("\n"))));
        }
        test.passages.left().forEach((part, words) ->
            Due.holds("no words of part " + part + " are left without a table: " + words, words.isEmpty()));
        Due.end();
    }

    private static List<Path> tables() throws IOException {
        try (Stream<Path> files = Files.list(TABLES)) {
            return files.filter(f -> !f.endsWith("scenes.txt")).sorted().collect(Collectors.toList());
        }
    }

    private static List<String> linesOf(Path file) throws IOException {
        return linesOf(Files.readAllLines(file));
    }

    private static List<String> linesOf(List<String> written) {
        List<String> lines = new ArrayList<>();
        for (String line : written) {
            lines.add(line.replaceAll("(^|\\s+)#.*", "").trim());
        }
        return lines;
    }

    private void readScenes(Path file) throws IOException {
        List<String> scene = new ArrayList<>();
        for (String line : linesOf(file)) {
            Matcher m = SCENE.matcher(line);
            if (m.matches()) {
                scene = new ArrayList<>();
                scenes.put(m.group(1), scene);
            } else if (!line.isEmpty()) {
                scene.add(line);
            }
        }
    }

    private void play(String table, List<String> lines) {
        int n = 0;
        for (String line : lines) {
            n++;
            place = table + ":" + n + ": ";
            if (!line.isEmpty()) {
                playLine(line);
            }
        }
        begin();
    }

    private void begin() {
        Due.holds(place + "an object has 512 calls at most, not " + calls, calls <= CALLS_MOST);
        x = new DeepWearer();
        calls = 0;
        changes.clear();
    }

    private void playLine(String line) {
        Matcher m = PASSAGE.matcher(line);
        if (m.matches()) {
            begin();
            Due.holds(place + "part " + m.group(1) + " of the document says: " + m.group(2),
                passages.lookAt(m.group(1), m.group(2)));
            return;
        }
        m = WITH.matcher(line);
        if (m.matches() && scenes.containsKey(m.group(1))) {
            begin();
            scenes.get(m.group(1)).forEach(this::playLine);
            return;
        }
        if (line.equals("new")) {
            begin();
            return;
        }
        playCalls(line);
    }

    private void playCalls(String line) {
        Matcher m = FEED.matcher(line);
        if (m.matches()) {
            feed(m.group(1));
            return;
        }
        m = TOWN.matcher(line);
        if (m.matches()) {
            feed(m.group(1));
            due(new Call("town()"), Call.number(m.group(2)));
            return;
        }
        m = CALLS.matcher(line);
        if (!m.matches()) {
            throw new IllegalStateException(place + "not a table's line: " + line);
        }
        Call call = new Call(m.group(3));
        if (m.group(1) != null) {
            asked(call, Call.number(m.group(4)));
            return;
        }
        int times = m.group(2) == null ? 1 : Integer.parseInt(m.group(2));
        long first = Call.number(m.group(4));
        long last = m.group(5) == null ? first : Call.number(m.group(5));
        for (int n = 0; n < times; n++) {
            due(call, times == 1 ? first : first + (last - first) / (times - 1) * n);
        }
    }

    private void feed(String text) {
        for (int i = 0; i < text.length(); i++) {
            due(new Call("feed(" + (int) text.charAt(i) + ")"), i + 1);
        }
    }

    private void due(Call call, long answer) {
        Due.is(place + call, call.on(x), answer);
        calls++;
        changes.add(call);
    }

    /** A call behind which all is as ahead of it. */
    private void asked(Call call, long answer) {
        Due.is(place + call, call.on(x), answer);
        calls++;
        Due.holds(place + "the probes are within 512 calls", changes.size() + 1 + probes.size() <= CALLS_MOST);
        changesNothing(call, probes);
        for (List<Call> group : groups) {
            changesNothing(call, group);
        }
    }

    /** Two objects, one with the call and one without, are told apart by nothing. */
    private void changesNothing(Call call, List<Call> asking) {
        DeepWearer with = replayed();
        call.on(with);
        DeepWearer without = replayed();
        boolean alike = true;
        for (int n = 0; n < asking.size() && alike; n++) {
            Call probe = asking.get(n);
            long due = probe.on(without);
            long got = probe.on(with);
            alike = got == due;
            Due.holds(place + call + " changes nothing: then " + probe + " (probe " + n + ") answered "
                + got + ", due is " + due, alike);
        }
    }

    private DeepWearer replayed() {
        DeepWearer y = new DeepWearer();
        changes.forEach(call -> call.on(y));
        return y;
    }
}
