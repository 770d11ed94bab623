import java.io.IOException;
import java.nio.charset.StandardCharsets;
import java.nio.file.Files;
import java.nio.file.Path;
import java.util.ArrayList;
import java.util.List;

/** The sentences of ../shared/DOC.md: those of the description (number 0), and those of each promise. */
final class Document {
    static final int PROMISES = 38;

    private final List<List<String>> sentences = new ArrayList<>();

    Document() throws IOException {
        String text = Files.readString(Path.of("../shared/DOC.md"), StandardCharsets.UTF_8);
        for (int promise = 0; promise <= PROMISES; promise++) {
            sentences.add(new ArrayList<>());
        }
        for (String section : text.split("\n## ")) {
            if (section.startsWith("Description\n")) {
                readDescription(section);
            } else if (section.startsWith("Promise ")) {
                readPromise(section);
            }
        }
    }

    List<String> of(int promise) {
        return sentences.get(promise);
    }

    /** The examples at its end have a test of their own. */
    private void readDescription(String section) {
        String rules = section.substring("Description\n".length(), section.indexOf("\nExamples: "));
        for (String paragraph : rules.split("\n\n")) {
            for (String sentence : onOneLine(paragraph).split("(?<=[.;])\\s+")) {
                add(0, sentence);
            }
        }
    }

    private void readPromise(String section) {
        int number = Integer.parseInt(section.substring("Promise ".length(), section.indexOf(':')));
        // A line that begins with a list's sign is a paragraph of its own.
        String[] paragraphs = section.split("\n\n|\n(?=- )");
        for (int i = 1; i < paragraphs.length; i++) {
            String paragraph = onOneLine(paragraphs[i]);
            if (!paragraph.startsWith("`")) {
                for (String sentence : paragraph.split("(?<=\\.)\\s+")) {
                    add(number, sentence);
                }
            }
        }
    }

    private static String onOneLine(String text) {
        return text.replaceAll("\\s+", " ").trim();
    }

    private void add(int promise, String sentence) {
        if (!sentence.isEmpty() && !sentences.get(promise).contains(sentence)) {
            sentences.get(promise).add(sentence);
        }
    }
}
