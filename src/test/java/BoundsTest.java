import java.io.IOException;
import java.nio.file.Files;
import java.nio.file.Path;
import java.util.HashSet;
import java.util.List;
import java.util.Set;
import java.util.TreeSet;
import java.util.regex.Matcher;
import java.util.regex.Pattern;

/**
 * Compares the runs in src/test/bounds, which RunsTest carries out, with the document: each names its promise and
 * quotes the sentence that it tests, and each sentence of the document is quoted, or listed as one without bounds.
 */
public final class BoundsTest {
    private static final Pattern TITLE = Pattern.compile("run promises? ([^:]*): .+");
    private static final int PROMISES = 42;
    /** The least that tells which sentence is meant. */
    private static final int SHORTEST_QUOTE = 12;
    private static int wrong;

    private final List<Sentences.Sentence> sentences;
    private final Set<Sentences.Sentence> quoted = new HashSet<>();
    private final Set<Integer> promisesNamed = new TreeSet<>();
    private final Set<String> titles = new HashSet<>();
    private Set<Integer> promisesOfRun = Set.of();
    private String place = "";

    private BoundsTest(Path document) throws IOException {
        sentences = Sentences.of(document);
    }

    public static void main(String[] arguments) throws IOException {
        Path bounds = Path.of(arguments[2]);
        BoundsTest test = new BoundsTest(Path.of(arguments[3]));
        for (Path file : RunsTest.filesIn(bounds)) {
            test.read(file);
        }
        test.readUnbounded(bounds.resolve("without-bounds.txt"));
        test.compare();
        System.out.println("BoundsTest: " + test.titles.size() + " runs, " + test.sentences.size() + " sentences, "
                + wrong + " wrong");
        if (wrong != 0) {
            System.exit(1);
        }
    }

    private static void due(boolean holds, String what) {
        if (!holds) {
            wrong++;
            System.out.println("wrong: " + what);
        }
    }

    private void read(Path file) throws IOException {
        List<String> rows = Files.readAllLines(file);
        for (int k = 0; k < rows.size(); k++) {
            place = file.getFileName() + ":" + (k + 1);
            String row = rows.get(k).strip();
            if (row.startsWith("run ")) {
                beginRun(row, k + 1 < rows.size() ? rows.get(k + 1) : "");
            } else if (row.startsWith("of ")) {
                quote(row.substring("of ".length()));
            }
        }
    }

    private void beginRun(String title, String next) {
        due(titles.add(title), place + ": another run has this title");
        due(next.startsWith("of "), place + ": the run does not quote the sentence that it tests");
        Matcher matcher = TITLE.matcher(title);
        due(matcher.matches(), place + ": the run does not name its promise");
        promisesOfRun = matcher.matches() ? promises(matcher.group(1)) : Set.of();
        promisesNamed.addAll(promisesOfRun);
    }

    /** Reads "4", "4 and 5", "4, 5 and 6" or "2 to 42". */
    private static Set<Integer> promises(String told) {
        Set<Integer> all = new TreeSet<>();
        for (String part : told.split(", | and ")) {
            String[] ends = part.split(" to ");
            for (int k = Integer.parseInt(ends[0]); k <= Integer.parseInt(ends[ends.length - 1]); k++) {
                all.add(k);
            }
        }
        return all;
    }

    /** A quote may be a part of a sentence, for one sentence may name several bounds. */
    private void quote(String words) {
        boolean isFound = false;
        for (Sentences.Sentence sentence : sentences) {
            boolean isNamed = sentence.promise() == 0 || promisesOfRun.contains(sentence.promise());
            if (isNamed && sentence.words().contains(words)) {
                quoted.add(sentence);
                isFound = true;
            }
        }
        due(isFound && words.length() >= SHORTEST_QUOTE, place + ": the document does not say there: " + words);
    }

    /** Reads the sentences that name no bounds; each line is one whole sentence, wherever it stands. */
    private void readUnbounded(Path file) throws IOException {
        for (String row : Files.readAllLines(file)) {
            boolean isFound = row.isBlank() || row.startsWith("#");
            for (Sentences.Sentence sentence : sentences) {
                if (sentence.words().equals(row.strip())) {
                    quoted.add(sentence);
                    isFound = true;
                }
            }
            due(isFound, file.getFileName() + ": the document does not say: " + row);
        }
    }

    private void compare() {
        for (Sentences.Sentence sentence : sentences) {
            due(quoted.contains(sentence), "no run tests, of promise " + sentence.promise() + ": " + sentence.words());
        }
        for (int k = 1; k <= PROMISES; k++) {
            due(promisesNamed.contains(k), "no run tests promise " + k);
        }
    }
}
