import java.io.IOException;
import java.nio.file.Files;
import java.nio.file.Path;
import java.util.ArrayList;
import java.util.List;

/** The sentences of the document, each with the promise under which it stands, or 0 if it stands before them. */
final class Sentences {
    private static final String PROMISE = "## Promise ";

    record Sentence(int promise, String words) {
    }

    private final List<Sentence> all = new ArrayList<>();
    private final StringBuilder paragraph = new StringBuilder();
    private int promise;
    private boolean isRead = true;

    private Sentences() {
    }

    static List<Sentence> of(Path document) throws IOException {
        Sentences reader = new Sentences();
        for (String line : Files.readAllLines(document)) {
            reader.read(line.strip());
        }
        reader.endParagraph();
        return reader.all;
    }

    private void read(String line) {
        if (line.startsWith("#")) {
            endParagraph();
            beginSection(line);
        } else if (line.isEmpty()) {
            endParagraph();
        } else {
            if (line.startsWith("- ")) {
                endParagraph();
            }
            paragraph.append(paragraph.length() > 0 ? " " : "").append(line);
        }
    }

    /** The face is FaceTest's, and what is not promised cannot be tested. */
    private void beginSection(String line) {
        isRead = !line.equals("## The public face") && !line.equals("## Not promised");
        if (line.startsWith(PROMISE)) {
            promise = Integer.parseInt(line.substring(PROMISE.length(), line.indexOf(':')));
        }
    }

    private void endParagraph() {
        String words = paragraph.toString();
        paragraph.setLength(0);
        if (isRead && !words.isEmpty()) {
            for (String sentence : words.split(promise == 0 ? "(?<=[.;])\\s+" : "(?<=[.])\\s+")) {
                // One word alone is the heading of what follows.
                if (sentence.contains(" ")) {
                    all.add(new Sentence(promise, sentence));
                }
            }
        }
    }
}
