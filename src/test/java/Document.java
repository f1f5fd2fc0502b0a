import java.io.IOException;
import java.io.UncheckedIOException;
import java.nio.file.Files;
import java.nio.file.Path;
import java.util.ArrayList;
import java.util.LinkedHashMap;
import java.util.List;
import java.util.Map;

/** The words of the document under their headings, so that a test can name the sentence that it holds. */
final class Document {
    private static final Path PATH = Path.of("../shared/DOC.md");
    private static final List<String> TERMS =
            List.of("Circuits", "Joining", "Colours", "Matches", "Differences", "Exceptions");

    /** The paragraphs under each heading; a promise's heading is "Promise 7". */
    private final Map<String, List<String>> paragraphs = new LinkedHashMap<>();

    Document() {
        List<String> under = new ArrayList<>();
        StringBuilder paragraph = new StringBuilder();
        for (String line : lines()) {
            String heading = headingOf(line);
            if (!heading.isEmpty() || line.isBlank()) {
                close(paragraph, under);
            } else {
                paragraph.append(paragraph.length() == 0 ? "" : " ").append(line.strip());
            }
            if (!heading.isEmpty()) {
                under = new ArrayList<>();
                paragraphs.put(heading, under);
            }
        }
        close(paragraph, under);
    }

    private static List<String> lines() {
        try {
            return Files.readAllLines(PATH);
        } catch (IOException unread) {
            throw new UncheckedIOException(unread);
        }
    }

    private static String headingOf(String line) {
        if (line.startsWith("<h2>")) {
            return line.replaceAll("</?h2>", "").strip();
        }
        return line.startsWith("## ") ? line.substring(3).replaceAll(":.*", "").strip() : "";
    }

    private static void close(StringBuilder paragraph, List<String> under) {
        if (paragraph.length() > 0) {
            under.add(paragraph.toString());
            paragraph.setLength(0);
        }
    }

    boolean says(String heading, String words) {
        return paragraphs.getOrDefault(heading, List.of()).stream().anyMatch(text -> text.contains(words));
    }

    /** Under each heading what needs a test: each sentence of a term, each answer and exception of a promise. */
    Map<String, List<String>> sentences() {
        Map<String, List<String>> all = new LinkedHashMap<>();
        paragraphs.forEach((heading, texts) -> {
            if (TERMS.contains(heading)) {
                all.put(heading, texts.stream().flatMap(text -> List.of(text.split("(?<=[.;]) ")).stream()).toList());
            } else if (heading.startsWith("Promise ")) {
                all.put(heading, texts.stream().filter(Document::tellsAnswer).toList());
            }
        });
        return all;
    }

    private static boolean tellsAnswer(String paragraph) {
        return paragraph.startsWith("Returns ") || paragraph.startsWith("Throws ");
    }
}
