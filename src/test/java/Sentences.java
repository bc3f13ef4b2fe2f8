import java.io.IOException;
import java.nio.file.Files;
import java.nio.file.Path;
import java.util.LinkedHashMap;
import java.util.Map;

/**
 * The sentences of ../shared/DOC.md by their sections: each paragraph under "Terms" by its word in capitals, each
 * promise by its number. A test quotes the sentence that it is about, and at the end none may be left unquoted.
 */
final class Sentences {
    private static final String[] PARAGRAPHS = {"TEXT", "ERRORS", "STREAMS", "LOG", "CHANGES"};

    private final Map<String, String> texts = new LinkedHashMap<>();
    private final Map<String, boolean[]> quoted = new LinkedHashMap<>();

    Sentences() throws IOException {
        String doc = Files.readString(Path.of("../shared/DOC.md"));
        put("USE", between(doc, "foreseen; a log and accounts.\n", "\n## "));
        String terms = between(doc, "All numbers are integers", "The constants:");
        for (int i = 0; i < PARAGRAPHS.length; i++) {
            String rest = terms.substring(terms.indexOf("\n" + PARAGRAPHS[i]) + 1);
            int to = i + 1 < PARAGRAPHS.length ? rest.indexOf("\n" + PARAGRAPHS[i + 1]) : rest.length();
            put(PARAGRAPHS[i], rest.substring(rest.indexOf(". ") + 2, to));
        }
        put("CONSTANTS", between(doc, "The constants:", "\n"));
        for (int promise = 1; promise <= 29; promise++) {
            String section = between(doc, "## Promise " + promise + ":", "\n## ");
            // LanguageTest looks at the heading and the signature
            put("" + promise, section.substring(section.indexOf("`: ") + 3));
        }
    }

    private static String between(String text, String start, String end) {
        int from = text.indexOf(start) + start.length();
        return text.substring(from, text.indexOf(end, from));
    }

    private void put(String section, String text) {
        String plain = plain(text);
        texts.put(section, plain);
        quoted.put(section, new boolean[plain.length()]);
    }

    private static String plain(String text) {
        return text.replace("```text", " ").replace("```", " ").replaceAll("(?m)^\\s*- ", " ")
                .replaceAll("\\s+", " ").trim();
    }

    /** True if the section holds the quote; what is quoted is marked. */
    boolean quote(String section, String quote) {
        String text = texts.get(section);
        int at = text == null ? -1 : text.indexOf(quote);
        if (at < 0) {
            return false;
        }
        for (int i = at; i < at + quote.length(); i++) {
            quoted.get(section)[i] = true;
        }
        return true;
    }

    /** What no test has quoted: for each section its words that are left. */
    Map<String, String> unquoted() {
        Map<String, String> left = new LinkedHashMap<>();
        for (String section : texts.keySet()) {
            StringBuilder words = new StringBuilder();
            for (int i = 0; i < texts.get(section).length(); i++) {
                words.append(quoted.get(section)[i] ? ' ' : texts.get(section).charAt(i));
            }
            left.put(section, words.toString().replaceAll("[^A-Za-z0-9]+", " ").trim());
        }
        return left;
    }
}
