import java.io.IOException;
import java.nio.file.Files;
import java.nio.file.Path;
import java.util.ArrayList;
import java.util.LinkedHashMap;
import java.util.List;
import java.util.Map;

/** The document's sections, and which of their words the tests quote. */
final class Doc {
    private static final Path PATH = Path.of("../shared/DOC.md");

    private final Map<String, String> sections = new LinkedHashMap<>();
    private final Map<String, List<String>> quotes = new LinkedHashMap<>();

    Doc() throws IOException {
        String section = "";
        for (String line : Files.readAllLines(PATH)) {
            section = sectionOf(line, section);
            if (!line.startsWith("#") && !line.startsWith("```")) {
                sections.merge(section, withoutHead(line), (a, b) -> (a + " " + b).strip());
            }
        }
    }

    /** Terms are told in three parts, each of which is a section of its own. */
    private static String sectionOf(String line, String ahead) {
        if (line.startsWith("## ")) {
            return line.substring(3).replaceFirst(":.*", "");
        }
        return line.startsWith("==== ") ? "Terms " + line.charAt(5) : ahead;
    }

    /** A line without the number of its part of the terms, or the signature of its promise. */
    private static String withoutHead(String line) {
        return line.replaceFirst("^==== \\d\\. ", "").replaceFirst("^`[^`]*`: ", "").strip();
    }

    /** Whether the section says so, to the letter. */
    boolean says(String section, String words) {
        quotes.computeIfAbsent(section, s -> new ArrayList<>()).add(words);
        return sections.getOrDefault(section, "").contains(words);
    }

    /** The parts of sentences in the terms and the promises that no test quotes. */
    List<String> unquoted() {
        List<String> left = new ArrayList<>();
        for (String section : sections.keySet()) {
            if (section.matches("Terms \\d|Promise \\d+")) {
                for (String piece : pieces(sections.get(section))) {
                    if (!isQuoted(section, piece)) {
                        left.add(section + ": " + piece);
                    }
                }
            }
        }
        return left;
    }

    /** Cut behind each . and ; that ends something: not at the dots of 1 .. 9999, nor at the sign of the grammar. */
    private static String[] pieces(String text) {
        return text.split("(?<![. ])[.;](\\s+|$)");
    }

    private boolean isQuoted(String section, String piece) {
        for (String quote : quotes.getOrDefault(section, List.of())) {
            if (quote.contains(piece) || piece.contains(quote)) {
                return true;
            }
        }
        return false;
    }
}
