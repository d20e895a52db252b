import java.io.IOException;
import java.io.UncheckedIOException;
import java.nio.file.Files;
import java.nio.file.Paths;
import java.util.ArrayList;
import java.util.HashSet;
import java.util.LinkedHashMap;
import java.util.List;
import java.util.Map;
import java.util.Set;

/**
 * The sentences of the document, so that each block of rows can quote the one that it holds the
 * program to, and a sentence that nothing quotes is found.
 *
 * <p>In a quote there are no back ticks, and a single quotation mark stands for a double one.
 */
final class Doc {
    private static final String FIRST_SECTION = "Terms";
    private static final String SECTION_BEHIND = "Not promised";
    /** What the document says of the text of the interface alone. */
    private static final String ON_TEXT = "the interface says: ----";

    private static final Map<String, List<String>> SENTENCES = read();
    private static final Set<String> QUOTED = new HashSet<>();
    private static String quoted = "";

    private Doc() {
    }

    /** The rows that follow hold the program to these words of the section. */
    static void says(String section, String words) {
        quoted = section + ", \"" + words + "\"";
        boolean found = false;
        for (String sentence : SENTENCES.getOrDefault(section, List.of())) {
            if (sentence.contains(words)) {
                QUOTED.add(section + ": " + sentence);
                found = true;
            }
        }
        Check.holds("the document does not say: " + quoted, found);
    }

    /** The words that were quoted last. */
    static String quoted() {
        return quoted;
    }

    /** Fails for each sentence of the terms and the promises that no rows have quoted. */
    static void everythingIsQuoted() {
        for (Map.Entry<String, List<String>> section : SENTENCES.entrySet()) {
            for (String sentence : section.getValue()) {
                Check.holds("no rows for: " + section.getKey() + ", " + sentence,
                        sentence.contains(ON_TEXT)
                                || QUOTED.contains(section.getKey() + ": " + sentence));
            }
        }
    }

    private static Map<String, List<String>> read() {
        Map<String, List<String>> sections = new LinkedHashMap<>();
        String section = "";
        boolean counts = false;
        for (String line : lines()) {
            String text = line.strip().replace("`", "").replace('"', '\'');
            if (text.startsWith("#")) {
                section = text.replaceAll("^#+ |:.*", "");
                counts = !section.equals(SECTION_BEHIND)
                        && (counts || section.equals(FIRST_SECTION));
            } else if (counts && !text.isEmpty() && !text.equals("text")) {
                addSentences(sections.computeIfAbsent(section, s -> new ArrayList<>()), text);
            }
        }
        return sections;
    }

    private static List<String> lines() {
        try {
            return Files.readAllLines(Paths.get("../shared/DOC.md"));
        } catch (IOException e) {
            throw new UncheckedIOException(e);
        }
    }

    private static void addSentences(List<String> sentences, String line) {
        String text = line.replaceAll("^(-|[0-9]+\\.) ", "");
        for (String sentence : text.split("(?<=\\.\\)?) (?=[(A-Z])")) {
            sentences.add(sentence);
        }
    }
}
