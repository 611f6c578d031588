import java.io.IOException;
import java.nio.charset.StandardCharsets;
import java.nio.file.Files;
import java.nio.file.Path;
import java.util.ArrayList;
import java.util.List;
import java.util.Set;

/** Compares the sentences that the tests quote with those of the document: none is left out or another one. */
final class DocumentTest {
    /** The words that stand ahead of a paragraph of "Terms" and say nothing by themselves. */
    private static final Set<String> HEADS = Set.of("Table.", "Sets.", "Rules.", "Batches.", "Dependencies.",
            "Repairs.", "Outliers.", "Profiles and drift.", "Exceptions.");
    private static final String FREE = "Not promised";
    private static final String BETWEEN_SENTENCES = "(?<=[.)]) (?=[A-Z(])";

    private final Check check;
    private final List<String> sentences = new ArrayList<>();
    private final StringBuilder paragraph = new StringBuilder();
    private String section = "";

    DocumentTest(Check check) {
        this.check = check;
    }

    void run(Path document, List<String> quoted) throws IOException {
        check.test("the sentences of the document are quoted in its order");
        boolean isCode = false;
        for (String line : Files.readAllLines(document, StandardCharsets.UTF_8)) {
            isCode ^= line.startsWith("```");
            if (!isCode && !line.startsWith("```")) {
                take(line);
            }
        }
        endParagraph();
        for (int i = 0; i < Math.max(sentences.size(), quoted.size()); i++) {
            check.due(i < sentences.size() ? sentences.get(i) : "no more",
                    i < quoted.size() ? quoted.get(i) : "no more");
        }
    }

    private void take(String line) {
        boolean isHeading = line.startsWith("#");
        if (line.isBlank() || isHeading || line.startsWith("- ")) {
            endParagraph();
        }
        if (isHeading) {
            section = line.replaceFirst("^#+ ", "").replaceFirst("^Promise (\\d+): .*", "promise $1");
        } else if (!line.isBlank()) {
            paragraph.append(paragraph.length() == 0 ? "" : " ").append(line.strip());
        }
    }

    /** A paragraph without the signature of its call, sentence by sentence. */
    private void endParagraph() {
        String text = paragraph.toString().replaceFirst("^`[^`]*\\([^`]*`: ", "");
        paragraph.setLength(0);
        for (String sentence : text.split(BETWEEN_SENTENCES)) {
            if (!sentence.isEmpty() && !HEADS.contains(sentence) && !section.equals(FREE)) {
                sentences.add(section + ": " + sentence);
            }
        }
    }
}
