import java.io.IOException;
import java.nio.file.Files;
import java.nio.file.Path;
import java.util.ArrayList;
import java.util.LinkedHashMap;
import java.util.List;
import java.util.Map;
import java.util.regex.Pattern;

/** The document by its sections, so that a test can be held against the sentence that it is named after. */
final class Document {
    private static final Path PLACE = Path.of("../shared/DOC.md");
    /** Words by which a sentence names a boundary case, beside its numbers and exceptions. */
    private static final Pattern BOUNDARY = Pattern.compile(
        "\\d|Throws|\\b(least|most|greatest|fewest|smallest|more|less|higher|first|last|none|never|nothing|without|each|all"
            + "|as above|exceptions?|now|wraps)\\b");

    /** A colon within brackets ends nothing. */
    private static final String SENTENCE_END = "(?<=[.;])\\s+|(?<=:)\\s+(?![^(]*\\))";

    private final Map<String, List<String>> sections = new LinkedHashMap<>();
    private final Map<String, List<String>> quoted = new LinkedHashMap<>();

    /** Where the document does not lie beside the project, the sentences are tested all the same, but not compared. */
    Document() throws IOException {
        String section = "";
        if (!Files.exists(PLACE)) {
            System.out.println(PLACE + " is not there: the sentences' words are not looked up");
        }
        for (String line : Files.exists(PLACE) ? Files.readAllLines(PLACE) : List.<String>of()) {
            if (line.startsWith("#")) {
                section = line.replaceAll("^#+ *", "").replaceAll(":.*", "");
            } else {
                sections.computeIfAbsent(section, named -> new ArrayList<>()).add(line.trim());
            }
        }
    }

    /** The lines of a section; none where the document is missing. */
    List<String> lines(String section) {
        return sections.getOrDefault(section, List.of());
    }

    /** Whether a section says these words within one line; they are then no longer among those without a test. */
    boolean says(String section, String words) {
        quoted.computeIfAbsent(section, named -> new ArrayList<>()).add(words);
        return sections.isEmpty()
            || lines(section).stream().anyMatch(line -> line.contains(words));
    }

    /** The sentences of the promises, of Terms and of the first section that name a boundary case and were not quoted. */
    List<String> withoutTest() {
        List<String> found = new ArrayList<>();
        for (String section : sections.keySet()) {
            if (section.startsWith("Promise ") || section.equals("Terms") || section.equals("What it is")) {
                for (String line : sections.get(section)) {
                    addUnquoted(section, line, found);
                }
            }
        }
        return found;
    }

    private void addUnquoted(String section, String line, List<String> found) {
        boolean interfaceComment = line.startsWith("Ahead of the calls");
        for (String sentence : line.replaceFirst("^\\d\\. |^`.*?`: |^- `\\w+`: ", "").split(SENTENCE_END)) {
            if (!interfaceComment && BOUNDARY.matcher(sentence).find() && !isQuoted(section, sentence)) {
                found.add(section + ": \"" + sentence + "\"");
            }
        }
    }

    private boolean isQuoted(String section, String sentence) {
        return quoted.getOrDefault(section, List.of()).stream()
            .anyMatch(words -> words.contains(sentence) || sentence.contains(words));
    }
}
