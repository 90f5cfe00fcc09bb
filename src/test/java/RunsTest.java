import java.io.IOException;
import java.nio.file.DirectoryStream;
import java.nio.file.Files;
import java.nio.file.Path;
import java.util.ArrayList;
import java.util.List;
import java.util.regex.Matcher;
import java.util.regex.Pattern;

/**
 * Carries out the runs of calls written under src/test/runs; README.md tells their form. After every call that
 * throws, what can be seen of the state must be as before.
 */
public final class RunsTest {
    private static final Pattern CALL = Pattern.compile("(\\w+)\\((.*)\\) (= (.*)|throws \\w+)");
    private static final Pattern REFUSED = Pattern.compile("refused (\\d+) (-?\\d+): (\\w+)\\((.*)\\)");
    private static final Pattern WRITES = Pattern.compile("writes (\\d+) \"(.*)\"");
    private static final Pattern CARRIES = Pattern.compile("carries (\\d+): \"(.*)\"");
    private static final Pattern FAULT = Pattern.compile("fault (\\d+): \"(.*)\"");
    private static final Pattern STOPS = Pattern.compile("stops (\\d+) (-?\\d+) (\\d+): \"(.*)\"");
    private static int wrong;
    private static int runs;

    private final String title;
    private final Face face = new Face(new UnreadLeaflets());

    private RunsTest(String title) {
        this.title = title;
    }

    public static void main(String[] arguments) throws IOException {
        List<Path> files = new ArrayList<>();
        try (DirectoryStream<Path> found = Files.newDirectoryStream(Path.of(arguments[1]), "*.run")) {
            found.forEach(files::add);
        }
        files.sort(null);
        for (Path file : files) {
            carryOut(file);
        }
        System.out.println("RunsTest: " + runs + " runs, " + wrong + " wrong");
        if (wrong != 0 || runs == 0) {
            System.exit(1);
        }
    }

    private static void carryOut(Path file) throws IOException {
        RunsTest run = null;
        int number = 0;
        for (String line : Files.readAllLines(file)) {
            number++;
            String row = line.strip();
            if (row.startsWith("run ")) {
                runs++;
                run = new RunsTest(file.getFileName().toString());
            } else if (!row.isEmpty() && !row.startsWith("#")) {
                if (run == null) {
                    throw new IllegalStateException(file + " begins without a run");
                }
                run.carryOut(number, row);
            }
        }
    }

    private void due(int number, String what, String got, String wanted) {
        if (!got.equals(wanted)) {
            wrong++;
            System.out.println(title + ":" + number + ": " + what + " answered " + firstOther(got, wanted)
                    + ", due is " + firstOther(wanted, got));
        }
    }

    /** Returns the first row of a text that the other does not have in its place, for whole states are long. */
    private static String firstOther(String text, String other) {
        String[] rows = text.split("\n", -1);
        String[] others = other.split("\n", -1);
        for (int k = 0; k < rows.length; k++) {
            if (k >= others.length || !rows[k].equals(others[k])) {
                return rows[k];
            }
        }
        return "";
    }

    private void carryOut(int number, String row) {
        Matcher matcher = CALL.matcher(row);
        if (matcher.matches()) {
            String wanted = matcher.group(3).startsWith("=") ? matcher.group(4) : matcher.group(3);
            plainCall(number, matcher.group(1), matcher.group(2), wanted);
            return;
        }
        matcher = REFUSED.matcher(row);
        if (matcher.matches()) {
            plainCall(number, matcher.group(3), matcher.group(4), "throws UnsupportedOperationException");
            dueReason(number, row, matcher.group(1), matcher.group(2), "0");
            return;
        }
        matcher = WRITES.matcher(row);
        if (matcher.matches()) {
            String wanted = matcher.group(2);
            plainCall(number, "line", matcher.group(1), String.valueOf(wanted.length()));
            due(number, row, face.lineSeen(), wanted);
            return;
        }
        texts(number, row);
    }

    private void texts(int number, String row) {
        Matcher matcher = CARRIES.matcher(row);
        if (matcher.matches()) {
            carried(number, row, matcher.group(2), matcher.group(1), "-1");
            return;
        }
        matcher = FAULT.matcher(row);
        if (matcher.matches()) {
            carried(number, row, matcher.group(2), "throws IllegalArgumentException", matcher.group(1));
            return;
        }
        matcher = STOPS.matcher(row);
        if (!matcher.matches()) {
            throw new IllegalStateException(title + ":" + number + ": no row of a run: " + row);
        }
        carried(number, row, matcher.group(4), "throws UnsupportedOperationException", "-1");
        dueReason(number, row, matcher.group(1), matcher.group(2), matcher.group(3));
    }

    private void carried(int number, String row, String text, String wanted, String faultPosition) {
        for (int k = 0; k < text.length(); k++) {
            due(number, row, face.call("append", text.charAt(k)), String.valueOf(k + 1));
        }
        String before = face.seen();
        due(number, row, face.call("commands"), wanted);
        if (wanted.startsWith("throws")) {
            due(number, "the state after " + row, face.seen(), before);
        }
        due(number, "the fault position after " + row, face.call("faultPosition"), faultPosition);
        due(number, "the length of the buffer after " + row, face.call("account", 10), "0");
    }

    private void dueReason(int number, String row, String reason, String detail, String command) {
        due(number, "the reason of " + row, face.call("reason", 0), reason);
        due(number, "the detail of " + row, face.call("reason", 1), detail);
        due(number, "the command of " + row, face.call("reason", 2), command);
    }

    private void plainCall(int number, String name, String given, String wanted) {
        Class<?>[] types = face.parametersOf(name);
        String[] texts = given.isEmpty() ? new String[0] : given.split(", ");
        if (texts.length != types.length) {
            throw new IllegalStateException(title + ":" + number + ": " + name + " takes " + types.length);
        }
        Object[] values = new Object[texts.length];
        for (int k = 0; k < texts.length; k++) {
            values[k] = Face.argument(types[k], texts[k]);
        }
        String before = face.seen();
        String besideBefore = face.seenBeside();
        String got = face.call(name, values);
        due(number, name + "(" + given + ")", got, wanted);
        if (got.startsWith("throws")) {
            due(number, "the state after " + name + "(" + given + ")", face.seen(), before);
            if (!got.endsWith("UnsupportedOperationException") && !name.equals("commands")) {
                due(number, "what stays beside after " + name, face.seenBeside(), besideBefore);
            }
        }
    }
}
