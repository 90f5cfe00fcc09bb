import java.io.IOException;
import java.lang.reflect.Constructor;
import java.lang.reflect.Field;
import java.lang.reflect.Method;
import java.lang.reflect.Modifier;
import java.nio.file.Files;
import java.nio.file.Path;
import java.util.ArrayList;
import java.util.List;
import java.util.Set;
import java.util.StringJoiner;
import java.util.TreeSet;
import java.util.regex.Matcher;
import java.util.regex.Pattern;

/** The class has the face that the document writes, and nothing else that can be seen. */
public final class FaceTest {
    private static final String CODE = "```";
    private static final Pattern METHOD = Pattern.compile("public (\\w+) (\\w+)\\((.*)\\)(?: throws (.*))?;");
    private static final int METHODS = 41;
    private static int wrong;

    private FaceTest() {
    }

    private static void due(boolean holds, String what) {
        if (!holds) {
            wrong++;
            System.out.println("wrong: " + what);
        }
    }

    public static void main(String[] arguments) throws IOException {
        Class<?> program = UnreadLeaflets.class;
        List<String> face = faceIn(Files.readAllLines(Path.of(arguments[3])));
        due(Modifier.isPublic(program.getModifiers()) && Modifier.isFinal(program.getModifiers()), "public and final");
        checkMethods(program, face);
        checkNamesOfParameters(face, Files.readString(Path.of(arguments[0])));
        checkConstructors(program);
        for (Field field : program.getDeclaredFields()) {
            due(Modifier.isPrivate(field.getModifiers()), "the field " + field.getName() + " is to be private");
        }
        for (Class<?> one : program.getDeclaredClasses()) {
            due(Modifier.isStatic(one.getModifiers()) && !Modifier.isPublic(one.getModifiers()),
                    one.getSimpleName() + " is to be static and not public");
        }
        System.out.println("FaceTest: " + face.size() + " methods, " + wrong + " wrong");
        if (wrong != 0) {
            System.exit(1);
        }
    }

    /** Returns the lines of the document's piece of code that are methods. */
    private static List<String> faceIn(List<String> document) {
        List<String> face = new ArrayList<>();
        boolean isCode = false;
        for (String line : document) {
            if (line.startsWith(CODE)) {
                isCode = !isCode;
            } else if (isCode && METHOD.matcher(line.strip()).matches()) {
                face.add(line.strip());
            }
        }
        due(face.size() == METHODS, "the document writes " + face.size() + " methods");
        return face;
    }

    private static void checkMethods(Class<?> program, List<String> face) {
        Set<String> wanted = new TreeSet<>();
        for (String line : face) {
            wanted.add(told(line));
        }
        Set<String> seen = new TreeSet<>();
        Set<String> publicNames = new TreeSet<>();
        for (Method method : program.getDeclaredMethods()) {
            if (Modifier.isPublic(method.getModifiers())) {
                due(!Modifier.isStatic(method.getModifiers()), method.getName() + " is static");
                seen.add(told(method));
                publicNames.add(method.getName());
            }
        }
        for (String one : wanted) {
            due(seen.contains(one), "there is no public " + one);
        }
        for (String one : seen) {
            due(wanted.contains(one), "the document does not write the public " + one);
        }
        for (Method method : program.getDeclaredMethods()) {
            if (!Modifier.isPublic(method.getModifiers())) {
                due(Modifier.isPrivate(method.getModifiers()), method.getName() + " is to be private");
                due(!publicNames.contains(method.getName()), method.getName() + " bears the name of a public one");
            }
        }
    }

    private static String told(String line) {
        Matcher matcher = METHOD.matcher(line);
        if (!matcher.matches()) {
            throw new IllegalArgumentException(line);
        }
        StringJoiner parameters = new StringJoiner(",", "(", ")");
        if (!matcher.group(3).isEmpty()) {
            for (String parameter : matcher.group(3).split(", ")) {
                parameters.add(parameter.split(" ")[0]);
            }
        }
        String exceptions = matcher.group(4) == null ? "" : matcher.group(4).replace(" ", "");
        return matcher.group(1) + " " + matcher.group(2) + parameters + " " + exceptions;
    }

    private static String told(Method method) {
        StringJoiner parameters = new StringJoiner(",", "(", ")");
        for (Class<?> type : method.getParameterTypes()) {
            parameters.add(type.getSimpleName());
        }
        StringJoiner exceptions = new StringJoiner(",");
        for (Class<?> type : method.getExceptionTypes()) {
            exceptions.add(type.getSimpleName());
        }
        return method.getReturnType().getSimpleName() + " " + method.getName() + parameters + " " + exceptions;
    }

    /** The names of parameters are not in the class file, so they are looked for in the program's text. */
    private static void checkNamesOfParameters(List<String> face, String source) {
        String words = source.replaceAll("\\s+", " ");
        for (String line : face) {
            due(words.contains(line.replace(";", " {")), "the program does not hold: " + line);
        }
    }

    private static void checkConstructors(Class<?> program) {
        Constructor<?>[] constructors = program.getDeclaredConstructors();
        due(constructors.length == 1 && constructors[0].getParameterCount() == 0, "one constructor without parameters");
        due(Modifier.isPublic(constructors[0].getModifiers()), "the constructor is to be public");
    }
}
