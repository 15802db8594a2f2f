import java.io.IOException;
import java.nio.file.Files;
import java.nio.file.Path;
import java.util.ArrayList;
import java.util.Arrays;
import java.util.LinkedHashMap;
import java.util.List;
import java.util.Map;
import java.util.regex.Matcher;
import java.util.regex.Pattern;

/** The document's parts that promise something, and which of their words the tables have looked at. */
final class Passages {
    private final Map<String, String> parts = new LinkedHashMap<>();
    private final Map<String, boolean[]> looked = new LinkedHashMap<>();

    Passages(Path document) throws IOException {
        String text = Files.readString(document);
        part("T1", between(text, "==== 1 ", "==== 2 "));
        part("T2", between(text, "==== 2 ", "==== 3 "));
        part("T3", between(text, "==== 3 ", "\n\nAnswers: "));
        part("Answers", between(text, "\n\nAnswers: ", "\n\nThe constants"));
        for (int n = 1; n <= 40; n++) {
            String whole = between(text, "## Promise " + n + ": ", "\n## ");
            // Ahead of a promise's words stand its name and how it is called.
            part("" + n, between(whole, "`: ", null));
        }
    }

    private static String between(String text, String from, String to) {
        int begins = text.indexOf(from);
        if (begins < 0) {
            throw new IllegalStateException("the document has no " + from);
        }
        begins += from.length();
        int ends = to == null ? text.length() : text.indexOf(to, begins);
        return text.substring(begins, ends);
    }

    /** What of a file stands between ```name and ```, block by block. */
    static List<String> blocks(Path file, String name) throws IOException {
        List<String> blocks = new ArrayList<>();
        Matcher m = Pattern.compile("(?ms)^```" + name + "$\n(.*?)^```$").matcher(Files.readString(file));
        while (m.find()) {
            blocks.add(m.group(1));
        }
        return blocks;
    }

    private void part(String name, String words) {
        String plain = words.replace("```text", " ").replace("```", " ").replaceAll("\\s+", " ").trim();
        parts.put(name, plain);
        looked.put(name, new boolean[plain.length()]);
    }

    /** Whether the part has this passage; if so, it is looked at from now on. */
    boolean lookAt(String part, String passage) {
        String words = parts.get(part);
        int at = words == null ? -1 : words.indexOf(passage);
        if (at < 0) {
            return false;
        }
        Arrays.fill(looked.get(part), at, at + passage.length(), true);
        return true;
    }

    /** What of all parts no passage has, part by part. */
    Map<String, String> left() {
        Map<String, String> left = new LinkedHashMap<>();
        for (Map.Entry<String, String> part : parts.entrySet()) {
            StringBuilder words = new StringBuilder();
            for (int i = 0; i < part.getValue().length(); i++) {
                words.append(looked.get(part.getKey())[i] ? ' ' : part.getValue().charAt(i));
            }
            left.put(part.getKey(), words.toString().replaceAll("[^\\w]+", " ").trim());
        }
        return left;
    }
}
