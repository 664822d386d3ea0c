import java.io.IOException;
import java.nio.file.Files;
import java.nio.file.Path;
import java.util.ArrayList;
import java.util.LinkedHashMap;
import java.util.List;
import java.util.Map;
import java.util.Set;
import java.util.TreeSet;

/**
 * The document's sentences. Each case bears a piece of the sentence that it is about, so that one finds it there; and a
 * sentence of "What it is", "Terms" or a promise that is borne by none is told.
 */
final class Document {
    private static final Path FILE = Path.of("../shared/DOC.md");
    static final String TERMS = "Terms";
    static final String WHAT_IT_IS = "What it is";
    static final int PROMISES = 36;
    /** They ask nothing of a call. */
    private static final Set<String> FREE = Set.of("Tiles.", "Games.", "Bets.", "Appeals.", "Journal.", "Exceptions.",
            "The class is not thread-safe.");

    private final Map<String, List<String>> sections = new LinkedHashMap<>();
    private final Set<String> cited = new TreeSet<>();

    Document() {
        read(lines());
    }

    private static List<String> lines() {
        try {
            return Files.readAllLines(FILE);
        } catch (IOException e) {
            throw new IllegalStateException("there is no " + FILE, e);
        }
    }

    /** What stands between the next fences behind a line that begins so, just as it is written. */
    static List<String> block(String start) {
        List<String> rows = new ArrayList<>();
        boolean isBehind = false;
        int fences = 0;
        for (String line : lines()) {
            isBehind = isBehind || line.startsWith(start);
            if (isBehind && line.startsWith("```")) {
                fences++;
            } else if (isBehind && fences == 1) {
                rows.add(line);
            }
        }
        return rows;
    }

    static String promise(int number) {
        return "Promise " + number;
    }

    /** Tells whether this piece stands in a sentence of the section, and keeps in mind that this one is borne. */
    boolean cite(String section, String piece) {
        boolean isThere = false;
        for (String sentence : sections.getOrDefault(section, List.of())) {
            if (sentence.contains(piece)) {
                cited.add(section + ": " + sentence);
                isThere = true;
            }
        }
        return isThere;
    }

    /** The sentences that ask something and are borne by none, and the promises that do not stand there. */
    List<String> uncited() {
        List<String> missing = new ArrayList<>();
        for (int number = 1; number <= PROMISES; number++) {
            if (!sections.containsKey(promise(number))) {
                missing.add(promise(number));
            }
        }
        sections.forEach((section, sentences) -> {
            for (String sentence : sentences) {
                if (isDue(section, sentence) && !cited.contains(section + ": " + sentence)) {
                    missing.add(section + ": " + sentence);
                }
            }
        });
        return missing;
    }

    private static boolean isDue(String section, String sentence) {
        boolean isAsking = section.startsWith("Promise") || section.equals(TERMS) || section.equals(WHAT_IT_IS);
        return isAsking && !FREE.contains(sentence);
    }

    private void read(List<String> lines) {
        String section = "";
        StringBuilder paragraph = new StringBuilder();
        for (String line : lines) {
            boolean isExample = line.startsWith("<p>");
            if (line.isBlank() || line.startsWith("- ") || line.startsWith("## ") || isExample) {
                close(section, paragraph);
            }
            if (line.startsWith("## ")) {
                section = line.substring(3).replaceAll(":.*", "");
            } else if (isExample) {
                section = "examples";
            } else {
                paragraph.append(line).append(' ');
            }
        }
        close(section, paragraph);
    }

    private void close(String section, StringBuilder paragraph) {
        String text = paragraph.toString().replace("`", "").strip().replaceAll("\\s+", " ");
        paragraph.setLength(0);
        if (!text.isEmpty()) {
            sections.computeIfAbsent(section, key -> new ArrayList<>()).addAll(List.of(text.split("(?<=\\.) ")));
        }
    }
}
