import java.io.IOException;
import java.lang.reflect.Method;
import java.lang.reflect.Modifier;
import java.nio.file.DirectoryStream;
import java.nio.file.Files;
import java.nio.file.Path;
import java.util.ArrayList;
import java.util.List;
import java.util.concurrent.TimeUnit;

/** README.md's example prints what README.md says, and README.md names every call and every test. */
public final class ReadmeTest {
    private static final String CODE = "```";
    private static final long MOST_SECONDS = 120;
    private static int wrong;

    private final Path program;
    private final List<String> rows;
    private final String words;

    private ReadmeTest(Path program, Path readme) throws IOException {
        this.program = program;
        rows = Files.readAllLines(readme);
        words = String.join("\n", rows);
    }

    public static void main(String[] arguments) throws IOException, InterruptedException {
        ReadmeTest test = new ReadmeTest(Path.of(arguments[0]), Path.of(arguments[4]));
        test.checkExample();
        test.checkNames();
        test.checkTests(Path.of(arguments[1]).resolveSibling("java"));
        System.out.println("ReadmeTest: " + wrong + " wrong");
        if (wrong != 0) {
            System.exit(1);
        }
    }

    private static void due(boolean holds, String what) {
        if (!holds) {
            wrong++;
            System.out.println("wrong: " + what);
        }
    }

    /** Returns the rows of the first piece of code of this sort. */
    private List<String> pieceOf(String sort) {
        int start = rows.indexOf(CODE + sort) + 1;
        due(start > 0, "README.md has no piece of code " + sort);
        int end = start;
        while (start > 0 && end < rows.size() && !rows.get(end).equals(CODE)) {
            end++;
        }
        return rows.subList(start, end);
    }

    private void checkExample() throws IOException, InterruptedException {
        Path folder = Files.createTempDirectory("example");
        Path example = folder.resolve("Example.java");
        Path printed = folder.resolve("printed.txt");
        Files.write(example, pieceOf("java"));
        String classes = folder.toString();
        int compiled = run(printed, "javac", "-Xlint:all", "-Werror", "-d", classes, program.toString(),
                example.toString());
        due(compiled == 0, "the example does not compile: " + Files.readString(printed));
        int ended = run(printed, "java", "-cp", classes, "Example");
        due(ended == 0, "the example ends with " + ended);
        List<String> got = Files.readAllLines(printed);
        due(got.equals(pieceOf("text")), "the example prints " + got);
        delete(folder);
    }

    private static int run(Path printed, String... command) throws IOException, InterruptedException {
        ProcessBuilder builder = new ProcessBuilder(command);
        builder.redirectErrorStream(true).redirectOutput(printed.toFile());
        Process process = builder.start();
        if (!process.waitFor(MOST_SECONDS, TimeUnit.SECONDS)) {
            process.destroyForcibly();
            return -1;
        }
        return process.exitValue();
    }

    private static void delete(Path folder) throws IOException {
        for (Path file : filesIn(folder)) {
            Files.delete(file);
        }
        Files.delete(folder);
    }

    private static List<Path> filesIn(Path folder) throws IOException {
        List<Path> files = new ArrayList<>();
        try (DirectoryStream<Path> found = Files.newDirectoryStream(folder)) {
            found.forEach(files::add);
        }
        return files;
    }

    private void checkNames() {
        for (Method method : UnreadLeaflets.class.getDeclaredMethods()) {
            if (Modifier.isPublic(method.getModifiers())) {
                due(words.contains("`" + method.getName() + "("), "README.md does not name " + method.getName());
            }
        }
    }

    private void checkTests(Path folder) throws IOException {
        for (Path file : filesIn(folder)) {
            String name = file.getFileName().toString().replace(".java", "");
            boolean isNamed = !name.endsWith("Test") || words.contains("`" + name + "`: ");
            due(isNamed, "README.md does not name " + name);
        }
    }
}
