import java.io.IOException;
import java.nio.charset.StandardCharsets;
import java.nio.file.Files;
import java.nio.file.Path;
import java.util.HashMap;
import java.util.Map;

/**
 * The document's own words. A test of a sentence begins by quoting it, so that the sentence is found from the test:
 * what is quoted must stand in that section of the document, and a section is finished when all of it was quoted.
 */
final class Doc {
    private static final String TEXT = read();
    private static final Map<String, StringBuilder> REST = new HashMap<>();

    private Doc() {
    }

    /** A section is "0" (what it is), "1" to "5" (terms), "6" (what is said behind them) or "Promise n". */
    static void sentence(String section, String quote) {
        Due.about(section + " '" + (quote.length() > 60 ? quote.substring(0, 60) + ".." : quote) + "': ");
        if (TEXT == null) {
            return;
        }
        StringBuilder rest = REST.computeIfAbsent(section, s -> new StringBuilder(wordsOf(s)));
        int at = rest.indexOf(quote);
        Due.due("stands in the document", at >= 0, true);
        if (at >= 0) {
            rest.replace(at, at + quote.length(), "");
        }
    }

    /** Every word of these sections was quoted by some test. */
    static void nothingIsLeftOf(String... sections) {
        if (TEXT == null) {
            System.out.println("no document is here: what was quoted could not be held against it");
            return;
        }
        for (String section : sections) {
            String rest = REST.containsKey(section) ? REST.get(section).toString() : wordsOf(section);
            Due.about(section + ": ");
            Due.due("no test quotes '" + rest.trim() + "'", rest.isBlank(), true);
        }
    }

    private static String wordsOf(String section) {
        String words;
        switch (section) {
            case "0":
                words = between("==== 1.", "## The public face");
                break;
            case "1":
                words = between("## Terms", "==== 2.");
                break;
            case "5":
                words = between("==== 5.", "All memory");
                break;
            case "6":
                words = "All memory" + between("All memory", "## Promise 1:");
                break;
            default:
                words = section.startsWith("Promise")
                    ? between("## " + section + ":", "## ").replaceFirst("(?s)^.*?`:", "")
                    : between("==== " + section + ".", "==== ");
                break;
        }
        return words.replace("```text", " ").replace("```", " ").replaceAll("\\s+", " ").trim();
    }

    private static String between(String from, String to) {
        int start = TEXT.indexOf(from);
        int end = start < 0 ? -1 : TEXT.indexOf(to, start + from.length());
        return end < 0 ? "" : TEXT.substring(start + from.length(), end);
    }

    private static String read() {
        String path = System.getenv("UTILITY_BOARD_DOC");
        Path file = Path.of(path == null ? "../shared/DOC.md" : path);
        try {
            return Files.readString(file, StandardCharsets.UTF_8);
        } catch (IOException e) {
            return null;
        }
    }
}
