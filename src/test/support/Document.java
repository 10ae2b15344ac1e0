import java.io.IOException;
import java.io.UncheckedIOException;
import java.nio.charset.StandardCharsets;
import java.nio.file.Files;
import java.nio.file.Path;
import java.util.ArrayList;
import java.util.LinkedHashMap;
import java.util.List;
import java.util.Map;
import java.util.regex.Matcher;
import java.util.regex.Pattern;

/**
 * The parts of ../shared/DOC.md that a test answers for. The test names each sentence by the document's own words;
 * words that do not stand there, and a sentence that is never named, are faults of the test.
 */
final class Document {
    private static final Path PLACE = Path.of("../shared/DOC.md");

    private final Map<String, String> parts = new LinkedHashMap<>();
    private final Map<String, boolean[]> named = new LinkedHashMap<>();

    /** A part is told by "Promise 7", or by the words that its line begins with. */
    Document(String... names) {
        List<String> lines = linesOf(PLACE);
        for (String name : names) {
            String part = name.startsWith("Promise ") ? promise(lines, name) : term(lines, name);
            parts.put(name, part);
            named.put(name, new boolean[part.length()]);
        }
    }

    private static List<String> linesOf(Path place) {
        try {
            return Files.readAllLines(place, StandardCharsets.UTF_8);
        } catch (IOException e) {
            throw new UncheckedIOException(e);
        }
    }

    /** The calls of the public face as the document writes them: "feed(int c)". */
    static List<String> face() {
        List<String> calls = new ArrayList<>();
        for (String line : linesOf(PLACE)) {
            Matcher call = Pattern.compile(" +public int (\\w+\\([^)]*\\));").matcher(line);
            if (call.matches()) calls.add(call.group(1));
        }
        if (calls.size() != 24) throw new IllegalStateException("the document's face has 24 calls, not " + calls);
        return calls;
    }

    /** The line below the heading, without the signature ahead of it. */
    private static String promise(List<String> lines, String name) {
        for (int i = 0; i + 2 < lines.size(); i++) {
            if (lines.get(i).startsWith("## " + name + ":")) {
                return lines.get(i + 2).replaceFirst("^`[^`]*`: ", "");
            }
        }
        throw new IllegalStateException("the document has no " + name);
    }

    private static String term(List<String> lines, String name) {
        for (String line : lines) {
            String plain = line.strip().replaceFirst("^=+ [0-9]+ ", "");
            if (plain.startsWith(name)) return plain;
        }
        throw new IllegalStateException("the document has no line that begins with " + name);
    }

    void name(String part, String words) {
        String text = parts.get(part);
        int from = text == null ? -1 : text.indexOf(words);
        if (from < 0) throw new IllegalStateException("the document does not say in " + part + ": " + words);
        for (int i = 0; i < words.length(); i++) named.get(part)[from + i] = true;
    }

    /** What no test has named yet, in the document's words; empty if all is named. */
    String unnamed() {
        StringBuilder rest = new StringBuilder();
        for (String part : parts.keySet()) {
            StringBuilder left = new StringBuilder();
            for (int i = 0; i < parts.get(part).length(); i++) {
                left.append(named.get(part)[i] ? ' ' : parts.get(part).charAt(i));
            }
            if (left.chars().anyMatch(Character::isLetterOrDigit)) {
                rest.append(part).append(": ").append(left.toString().replaceAll(" +", " ").strip()).append('\n');
            }
        }
        return rest.toString();
    }
}
