import java.io.IOException;
import java.nio.file.Files;
import java.nio.file.Path;
import java.util.ArrayList;
import java.util.LinkedHashMap;
import java.util.List;
import java.util.Map;
import java.util.Set;
import java.util.TreeSet;

/**
 * The document's sentences. Each boundary case bears a piece of the sentence that it is about, so that one finds it
 * there; and a sentence that names a boundary case and is borne by none is told.
 */
final class Document {
    private static final Path FILE = Path.of("../shared/DOC.md");
    static final String TERMS = "Terms";
    static final String WHAT_IT_IS = "What it is";
    /** They name no boundary case. */
    private static final Set<String> FREE = Set.of("Tiles.", "Games.", "Bets.", "Appeals.", "Journal.", "Exceptions.",
            "The class is not thread-safe.");

    private final Map<String, List<String>> sections = new LinkedHashMap<>();
    private final Set<String> cited = new TreeSet<>();

    Document() {
        try {
            read(Files.readAllLines(FILE));
        } catch (IOException e) {
            throw new IllegalStateException("there is no " + FILE, e);
        }
    }

    static String promise(int number) {
        return "Promise " + number;
    }

    /** Tells whether this piece stands in a sentence of the section, and keeps in mind that this one is borne. */
    boolean cite(String section, String piece) {
        boolean isThere = false;
        for (String sentence : sections.getOrDefault(section, List.of())) {
            if (sentence.contains(piece)) {
                cited.add(section + ": " + sentence);
                isThere = true;
            }
        }
        return isThere;
    }

    /** The sentences that name a boundary case and are borne by none. */
    List<String> uncited() {
        List<String> missing = new ArrayList<>();
        sections.forEach((section, sentences) -> {
            for (String sentence : sentences) {
                if (isDue(section, sentence) && !cited.contains(section + ": " + sentence)) {
                    missing.add(section + ": " + sentence);
                }
            }
        });
        return missing;
    }

    private static boolean isDue(String section, String sentence) {
        if (section.equals(TERMS)) {
            return !FREE.contains(sentence);
        }
        return section.startsWith("Promise")
                && (sentence.startsWith("Throws") || sentence.startsWith("- ") || sentence.contains("Dominofs()"));
    }

    private void read(List<String> lines) {
        String section = "";
        StringBuilder paragraph = new StringBuilder();
        for (String line : lines) {
            boolean isExample = line.startsWith("<p>");
            if (line.isBlank() || line.startsWith("- ") || line.startsWith("## ") || isExample) {
                close(section, paragraph);
            }
            if (line.startsWith("## ")) {
                section = line.substring(3).replaceAll(":.*", "");
            } else if (isExample) {
                section = "examples";
            } else {
                paragraph.append(line).append(' ');
            }
        }
        close(section, paragraph);
    }

    private void close(String section, StringBuilder paragraph) {
        String text = paragraph.toString().replace("`", "").strip().replaceAll("\\s+", " ");
        paragraph.setLength(0);
        if (!text.isEmpty()) {
            List<String> sentences = sections.computeIfAbsent(section, key -> new ArrayList<>());
            sentences.addAll(section.equals(TERMS) ? List.of(text.split("(?<=\\.) ")) : List.of(text));
        }
    }
}
