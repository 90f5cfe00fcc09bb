import java.io.IOException;
import java.nio.file.DirectoryStream;
import java.nio.file.Files;
import java.nio.file.Path;
import java.util.ArrayList;
import java.util.List;
import java.util.Set;
import java.util.function.Supplier;
import java.util.regex.Matcher;
import java.util.regex.Pattern;

/**
 * Carries out the runs of calls written in the folders src/test/runs and src/test/bounds; README.md tells their form.
 * Around every call it looks at what this call must leave as it is, and behind one that throws also at what could be
 * undone, restored and carried out then. The second program must keep to the runs as well as the first one.
 */
public final class RunsTest {
    private static final Pattern CALL = Pattern.compile("(\\w+)\\((.*)\\) (= (.*)|throws \\w+)");
    private static final Pattern TIMES = Pattern.compile("times (\\d+): (.*)");
    private static final Pattern REFUSED = Pattern.compile("refused (\\d+) (-?\\d+): (\\w+)\\((.*)\\)");
    private static final Pattern WRITES = Pattern.compile("writes (\\d+) \"(.*)\"");
    private static final Pattern TYPES = Pattern.compile("types (\\d+): \"(.*)\"");
    private static final Pattern CARRIES = Pattern.compile("carries (\\d+): \"(.*)\"");
    private static final Pattern FAULT = Pattern.compile("fault (\\d+): \"(.*)\"");
    private static final Pattern STOPS = Pattern.compile("stops (\\d+) (-?\\d+) (\\d+): \"(.*)\"");
    private static final Set<String> CHANGES = Set.of("leaflet", "step", "fold", "unfold", "cousin", "learn", "build",
            "finish", "apart", "move", "lose", "find", "commands", "undo", "restore");
    private static final String ANY_NUMBER = "~";
    private static final String REFUSAL = "throws UnsupportedOperationException";
    /** Behind so many calls it looks no more, for a look takes many questions, and 512 calls are all that there are. */
    private static final int MOST_CALLS_WATCHED = 400;
    private static int wrong;
    private static int runs;

    private final String title;
    private final Face face;

    private RunsTest(String title, Supplier<?> maker) {
        this.title = title;
        face = new Face(maker);
    }

    public static void main(String[] arguments) throws IOException {
        for (String folder : List.of(arguments[1], arguments[2])) {
            for (Path file : filesIn(Path.of(folder))) {
                List<String> rows = Files.readAllLines(file);
                carryOut(file.getFileName().toString(), rows, UnreadLeaflets::new);
                carryOut(file.getFileName() + " by the model", rows, Model::new);
            }
        }
        System.out.println("RunsTest: " + runs + " runs, " + wrong + " wrong");
        if (wrong != 0 || runs == 0) {
            System.exit(1);
        }
    }

    static List<Path> filesIn(Path folder) throws IOException {
        List<Path> files = new ArrayList<>();
        try (DirectoryStream<Path> found = Files.newDirectoryStream(folder, "*.run")) {
            found.forEach(files::add);
        }
        files.sort(null);
        return files;
    }

    private static void carryOut(String file, List<String> rows, Supplier<?> maker) {
        RunsTest run = null;
        for (int k = 0; k < rows.size(); k++) {
            String row = rows.get(k).strip();
            if (row.startsWith("run ")) {
                runs++;
                run = new RunsTest(file, maker);
            } else if (!row.isEmpty() && !row.startsWith("#") && !row.startsWith("of ")) {
                if (run == null) {
                    throw new IllegalStateException(file + " begins without a run");
                }
                run.carryOut(k + 1, row);
            }
        }
    }

    private void due(int number, String what, String got, String wanted) {
        boolean isAnyNumber = wanted.equals(ANY_NUMBER) && !got.startsWith("throws");
        if (!isAnyNumber && !got.equals(wanted)) {
            wrong++;
            System.out.println(title + ":" + number + ": " + what + " answered " + firstOther(got, wanted)
                    + ", due is " + firstOther(wanted, got));
        }
    }

    /** Returns the first row of a text that the other does not have in its place, for whole states are long. */
    private static String firstOther(String text, String other) {
        String[] rows = text.split("\n", -1);
        String[] others = other.split("\n", -1);
        for (int k = 0; k < rows.length; k++) {
            if (k >= others.length || !rows[k].equals(others[k])) {
                return rows[k];
            }
        }
        return "";
    }

    private void carryOut(int number, String row) {
        Matcher matcher = TIMES.matcher(row);
        if (matcher.matches()) {
            String[] rows = matcher.group(2).split(" [|] ");
            for (int k = 0; k < Integer.parseInt(matcher.group(1)) * rows.length; k++) {
                carryOut(number, rows[k % rows.length]);
            }
            return;
        }
        matcher = CALL.matcher(row);
        if (matcher.matches()) {
            String wanted = matcher.group(3).startsWith("=") ? matcher.group(4) : matcher.group(3);
            plainCall(number, matcher.group(1), matcher.group(2), wanted);
            return;
        }
        matcher = REFUSED.matcher(row);
        if (matcher.matches()) {
            plainCall(number, matcher.group(3), matcher.group(4), REFUSAL);
            dueReason(number, row, matcher.group(1), matcher.group(2), "0");
            return;
        }
        matcher = WRITES.matcher(row);
        if (matcher.matches()) {
            String wanted = matcher.group(2);
            plainCall(number, "line", matcher.group(1), String.valueOf(wanted.length()));
            due(number, row, Sight.ofLine(face), wanted);
            return;
        }
        texts(number, row);
    }

    private void texts(int number, String row) {
        Matcher matcher = TYPES.matcher(row);
        if (matcher.matches()) {
            due(number, row, typed(matcher.group(2)), matcher.group(1));
            return;
        }
        matcher = CARRIES.matcher(row);
        if (matcher.matches()) {
            carried(number, row, matcher.group(2), matcher.group(1), "-1");
            return;
        }
        matcher = FAULT.matcher(row);
        if (matcher.matches()) {
            carried(number, row, matcher.group(2), "throws IllegalArgumentException", matcher.group(1));
            return;
        }
        matcher = STOPS.matcher(row);
        if (!matcher.matches()) {
            throw new IllegalStateException(title + ":" + number + ": no row of a run: " + row);
        }
        carried(number, row, matcher.group(4), REFUSAL, "-1");
        dueReason(number, row, matcher.group(1), matcher.group(2), matcher.group(3));
    }

    /** Appends a text, and returns the last answer, or "0" if it is empty. */
    private String typed(String text) {
        String answer = "0";
        for (int k = 0; k < text.length(); k++) {
            answer = face.call("append", text.charAt(k));
        }
        return answer;
    }

    private void carried(int number, String row, String text, String wanted, String faultPosition) {
        due(number, "the buffer before " + row, face.ask("account", 10), "0");
        due(number, row, typed(text), String.valueOf(text.length()));
        watchedCall(number, row, wanted, text.length() + 1, "commands");
        due(number, "the fault position after " + row, face.ask("faultPosition"), faultPosition);
        due(number, "the length of the buffer after " + row, face.ask("account", 10), "0");
    }

    private void dueReason(int number, String row, String reason, String detail, String command) {
        due(number, "the reason of " + row, face.ask("reason", 0), reason);
        due(number, "the detail of " + row, face.ask("reason", 1), detail);
        due(number, "the command of " + row, face.ask("reason", 2), command);
    }

    private void plainCall(int number, String name, String given, String wanted) {
        Class<?>[] types = face.parametersOf(name);
        String[] texts = given.isEmpty() ? new String[0] : given.split(", ");
        if (texts.length != types.length) {
            throw new IllegalStateException(title + ":" + number + ": " + name + " takes " + types.length);
        }
        Object[] values = new Object[texts.length];
        for (int k = 0; k < texts.length; k++) {
            values[k] = Face.argument(types[k], texts[k]);
        }
        watchedCall(number, name + "(" + given + ")", wanted, 1, name, values);
    }

    /** Makes a call that ends a row, the last of the row's few calls, and looks at what it must leave as it is. */
    private void watchedCall(int number, String row, String wanted, int rowsCalls, String name, Object... values) {
        if (face.made() >= MOST_CALLS_WATCHED) {
            due(number, row, face.call(name, values), wanted);
            return;
        }
        String state = Sight.ofState(face);
        String reason = Sight.ofReason(face);
        String text = Sight.ofText(face);
        String line = Sight.ofLine(face);
        String got = face.call(name, values);
        due(number, row, got, wanted);
        boolean isThrown = got.startsWith("throws");
        if (isThrown || !CHANGES.contains(name)) {
            due(number, "the state after " + row, Sight.ofState(face), state);
        }
        if (!got.equals(REFUSAL)) {
            due(number, "the reason after " + row, Sight.ofReason(face), reason);
        }
        if (isThrown || !name.equals("line")) {
            due(number, "the line after " + row, Sight.ofLine(face), line);
        }
        if (!name.equals("commands") && (isThrown || !name.equals("append"))) {
            due(number, "the fault position and the buffer after " + row, Sight.ofText(face), text);
        }
        if (isThrown) {
            duePast(number, row, rowsCalls, name);
        }
    }

    private void duePast(int number, String row, int rowsCalls, String name) {
        due(number, "what can be undone and restored after " + row, Sight.ofPast(face.twinWithout(0)),
                Sight.ofPast(face.twinWithout(rowsCalls)));
        if (!name.equals("commands")) {
            due(number, "what is in the buffer after " + row, Sight.ofBuffer(face.twinWithout(0)),
                    Sight.ofBuffer(face.twinWithout(rowsCalls)));
        }
    }
}
