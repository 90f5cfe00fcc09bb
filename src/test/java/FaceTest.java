import java.io.IOException;
import java.lang.reflect.Constructor;
import java.lang.reflect.Field;
import java.lang.reflect.Method;
import java.lang.reflect.Modifier;
import java.nio.file.Files;
import java.nio.file.Path;
import java.util.List;
import java.util.Set;
import java.util.StringJoiner;
import java.util.TreeSet;

/** The class has the document's face, and nothing else that can be seen. */
public final class FaceTest {
    private static final Set<String> WANTED = new TreeSet<>(List.of(
            "int leaflet(int) UnsupportedOperationException",
            "int step(int,int,int,int,boolean) UnsupportedOperationException",
            "int fold(int) UnsupportedOperationException",
            "int unfold(int) UnsupportedOperationException",
            "int cousin(int,int) UnsupportedOperationException",
            "int learn(int,int) UnsupportedOperationException",
            "int build(int,int) UnsupportedOperationException",
            "int finish(int,int) UnsupportedOperationException",
            "int apart(int) UnsupportedOperationException",
            "int move(int,int) UnsupportedOperationException",
            "int lose(int,int) UnsupportedOperationException",
            "int find(int,int) UnsupportedOperationException",
            "int leafletOf(int,int) IndexOutOfBoundsException,IllegalArgumentException",
            "int stepOf(int,int,int) IndexOutOfBoundsException,NoSuchElementException,IllegalArgumentException",
            "int cousinOf(int,int) IndexOutOfBoundsException,IllegalArgumentException",
            "int why(int,int,int) IndexOutOfBoundsException,NoSuchElementException",
            "int whyAgain(int,int,int) IndexOutOfBoundsException,NoSuchElementException",
            "int wouldSkip(int,int) IndexOutOfBoundsException",
            "int wouldLeave(int,int,int) IndexOutOfBoundsException,IllegalArgumentException",
            "int bestCousin(int) IndexOutOfBoundsException,NoSuchElementException",
            "int bestLanguage(int,int) IndexOutOfBoundsException,NoSuchElementException",
            "int bestFolds(int,int) IndexOutOfBoundsException",
            "boolean canFinish(int,int) IndexOutOfBoundsException,NoSuchElementException",
            "int couldFinish(int) IndexOutOfBoundsException",
            "int tin(int) IllegalArgumentException",
            "int lost(int) IllegalArgumentException",
            "int shelfOf(int) IllegalArgumentException",
            "int ranked(int,int) IllegalArgumentException,NoSuchElementException",
            "boolean isEven() ",
            "int append(char) IllegalStateException",
            "int commands() IllegalArgumentException,UnsupportedOperationException",
            "int faultPosition() ",
            "int reason(int) IllegalArgumentException,NoSuchElementException",
            "int line(int) IndexOutOfBoundsException",
            "char character(int) IndexOutOfBoundsException",
            "double meanSteps() ArithmeticException",
            "float skippedShare() ArithmeticException",
            "int account(int) IllegalArgumentException",
            "int undo() IllegalStateException",
            "int save() ",
            "int restore() IllegalStateException"));
    /** Words that LANGUAGE.md rules out, wherever they stand in the program. */
    private static final List<String> RULED_OUT = List.of("package ", "->", "::", "finally", "synchronized", "assert ",
            "Exact(", "getMessage", "static {", "System.out", "catch (Exception", "catch (RuntimeException",
            "catch (Throwable", "catch (Array", "catch (Null", "catch (ClassCast", "catch (Negative", "native ");
    private static int wrong;

    private FaceTest() {
    }

    private static void due(boolean holds, String what) {
        if (!holds) {
            wrong++;
            System.out.println("wrong: " + what);
        }
    }

    public static void main(String[] arguments) throws IOException {
        Class<?> program = UnreadLeaflets.class;
        due(Modifier.isPublic(program.getModifiers()) && Modifier.isFinal(program.getModifiers()), "public and final");
        checkMethods(program);
        checkConstructors(program);
        for (Field field : program.getDeclaredFields()) {
            due(Modifier.isPrivate(field.getModifiers()), "the field " + field.getName() + " is to be private");
        }
        checkInnerClasses(program);
        checkSource(Files.readString(Path.of(arguments[0])));
        System.out.println("FaceTest: " + wrong + " wrong");
        if (wrong != 0) {
            System.exit(1);
        }
    }

    private static void checkMethods(Class<?> program) {
        Set<String> seen = new TreeSet<>();
        Set<String> publicNames = new TreeSet<>();
        for (Method method : program.getDeclaredMethods()) {
            if (Modifier.isPublic(method.getModifiers())) {
                seen.add(told(method));
                publicNames.add(method.getName());
            }
        }
        due(seen.equals(WANTED), "the public methods are " + seen);
        for (Method method : program.getDeclaredMethods()) {
            if (!Modifier.isPublic(method.getModifiers())) {
                due(Modifier.isPrivate(method.getModifiers()), method.getName() + " is to be private");
                due(!publicNames.contains(method.getName()), method.getName() + " bears the name of a public one");
            }
        }
    }

    private static String told(Method method) {
        StringJoiner parameters = new StringJoiner(",", "(", ")");
        for (Class<?> type : method.getParameterTypes()) {
            parameters.add(type.getSimpleName());
        }
        StringJoiner exceptions = new StringJoiner(",");
        for (Class<?> type : method.getExceptionTypes()) {
            exceptions.add(type.getSimpleName());
        }
        return method.getReturnType().getSimpleName() + " " + method.getName() + parameters + " " + exceptions;
    }

    private static void checkConstructors(Class<?> program) {
        Constructor<?>[] constructors = program.getDeclaredConstructors();
        due(constructors.length == 1 && constructors[0].getParameterCount() == 0, "one constructor without parameters");
        due(Modifier.isPublic(constructors[0].getModifiers()), "the constructor is to be public");
    }

    private static void checkInnerClasses(Class<?> program) {
        Class<?>[] inside = program.getDeclaredClasses();
        due(inside.length <= 12, "at most some twelve classes");
        for (Class<?> one : inside) {
            due(Modifier.isStatic(one.getModifiers()) && !Modifier.isPublic(one.getModifiers()),
                    one.getSimpleName() + " is to be static and not public");
            due(one.getDeclaredFields().length <= 20, one.getSimpleName() + " has too many fields");
        }
    }

    private static void checkSource(String source) {
        for (String word : RULED_OUT) {
            due(!source.contains(word), "the program holds " + word);
        }
        for (String line : source.split("\n")) {
            if (line.startsWith("import ")) {
                due(line.equals("import java.util.NoSuchElementException;"), line);
            }
        }
        due(source.chars().allMatch(sign -> sign < 128), "the program holds a sign above 127");
    }
}
