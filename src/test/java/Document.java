import java.io.IOException;
import java.io.UncheckedIOException;
import java.nio.file.Files;
import java.nio.file.Path;
import java.util.ArrayList;
import java.util.Arrays;
import java.util.LinkedHashMap;
import java.util.List;
import java.util.Map;
import java.util.regex.Matcher;
import java.util.regex.Pattern;

/** The words of ../shared/DOC.md, part by part, and which of them a test has named. */
final class Document {
    private static final Path PATH = Path.of("../shared/DOC.md");
    private final Map<String, String> parts = new LinkedHashMap<>();
    private final Map<String, boolean[]> named = new LinkedHashMap<>();

    Document() {
        String all = wordsOnly();
        put("use", between(all, "==== I.", "## The public face"));
        put("I", between(all, "## Terms", "==== II."));
        put("II", between(all, "==== II.", "==== III."));
        put("III", between(all, "==== III.", "## Promise 1:"));
        Matcher m = Pattern.compile("## Promise (\\d+): [^`]*`[^`]*`: (.*?) (?=## )").matcher(all);
        while (m.find()) put(m.group(1), m.group(2));
    }

    /** The document as one line, without the marks around what is set apart. */
    private static String wordsOnly() {
        try {
            return Files.readString(PATH).replaceAll("(?m)^```.*$", "").replaceAll("\\s+", " ");
        } catch (IOException e) {
            throw new UncheckedIOException(e);
        }
    }

    private static String between(String all, String from, String to) {
        int begin = all.indexOf(from);
        int end = all.indexOf(to, begin + 1);
        if (begin < 0 || end < 0) throw new IllegalStateException("the document has no part from " + from + " to " + to);
        return all.substring(begin + from.length(), end).trim();
    }

    private void put(String part, String words) {
        parts.put(part, words);
        named.put(part, new boolean[words.length()]);
    }

    /** Whether the document says these words there; then they are named from now on. */
    boolean says(String part, String words) {
        int at = parts.getOrDefault(part, "").indexOf(words);
        if (at < 0) return false;
        Arrays.fill(named.get(part), at, at + words.length(), true);
        return true;
    }

    /** What no test has named, signs between words aside. */
    List<String> unnamed() {
        List<String> left = new ArrayList<>();
        for (String part : parts.keySet()) {
            String words = parts.get(part);
            boolean[] seen = named.get(part);
            for (int i = 0; i < words.length(); i++) {
                int begin = i;
                while (i < words.length() && !seen[i]) i++;
                String gap = words.substring(begin, i);
                if (gap.matches(".*[a-zA-Z0-9].*")) left.add(part + ": " + gap.trim());
            }
        }
        return left;
    }

    int promises() {
        int count = 0;
        for (String part : parts.keySet()) if (part.matches("\\d+")) count++;
        return count;
    }
}
