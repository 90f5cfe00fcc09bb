import java.lang.reflect.InvocationTargetException;
import java.lang.reflect.Method;
import java.lang.reflect.Modifier;
import java.util.ArrayList;
import java.util.Arrays;
import java.util.HashMap;
import java.util.List;
import java.util.Map;
import java.util.NoSuchElementException;
import java.util.Set;
import java.util.function.Supplier;

/**
 * Calls the methods of an object by their names, and tells what they answer as texts. The document promises nothing
 * of the calls of an object after its 512th: one that had so many is left, and a new one gets the calls that count.
 */
final class Face {
    static final int MOST_CALLS = 512;
    private static final Set<Class<?>> THROWN = Set.of(IllegalStateException.class, IllegalArgumentException.class,
            IndexOutOfBoundsException.class, ArithmeticException.class, UnsupportedOperationException.class,
            NoSuchElementException.class);

    private record Call(String name, Object[] arguments, String answer) {
    }

    private final Supplier<?> maker;
    private final Map<String, Method> methods = new HashMap<>();
    private final List<Call> made = new ArrayList<>();
    private Object object;
    private int callsOfObject;

    Face(Supplier<?> maker) {
        this.maker = maker;
        object = maker.get();
        for (Method method : object.getClass().getDeclaredMethods()) {
            if (Modifier.isPublic(method.getModifiers())) {
                method.setAccessible(true);
                methods.put(method.getName(), method);
            }
        }
    }

    /** Returns another one on which the same calls were made, but for the last few. */
    Face twinWithout(int lastFew) {
        Face twin = new Face(maker);
        for (Call one : made.subList(0, made.size() - lastFew)) {
            twin.call(one.name, one.arguments);
        }
        return twin;
    }

    Class<?>[] parametersOf(String name) {
        Method method = methods.get(name);
        if (method == null) {
            throw new IllegalArgumentException("no method " + name);
        }
        return method.getParameterTypes();
    }

    /** Returns how many calls were made that count. */
    int made() {
        return made.size();
    }

    /** Makes a call that counts, and returns the answer as a text, or "throws" and the name of the exception's class. */
    String call(String name, Object... arguments) {
        String answer = ask(name, arguments);
        made.add(new Call(name, arguments, answer));
        return answer;
    }

    /** Does the same with a call that does not count, for it must change nothing. */
    String ask(String name, Object... arguments) {
        if (made.size() >= MOST_CALLS) {
            throw new IllegalStateException("no call is left of " + MOST_CALLS);
        }
        if (callsOfObject >= MOST_CALLS) {
            renew();
        }
        return answerOf(name, arguments);
    }

    private void renew() {
        object = maker.get();
        callsOfObject = 0;
        for (Call one : made) {
            String answer = answerOf(one.name, one.arguments);
            if (!answer.equals(one.answer)) {
                throw new AssertionError(one.name + Arrays.toString(one.arguments) + " answered " + one.answer
                        + ", and, after the same calls but for questions, " + answer);
            }
        }
    }

    private String answerOf(String name, Object[] arguments) {
        parametersOf(name);
        callsOfObject++;
        try {
            return String.valueOf(methods.get(name).invoke(object, arguments));
        } catch (InvocationTargetException e) {
            return thrown(e.getCause());
        } catch (IllegalAccessException e) {
            throw new IllegalStateException(e);
        }
    }

    /** Ends the test if the machine throws by itself: it does so by classes below these, by others, or "by zero". */
    private static String thrown(Throwable cause) {
        if (!THROWN.contains(cause.getClass()) || String.valueOf(cause.getMessage()).contains("by zero")) {
            throw new AssertionError("the machine throws", cause);
        }
        return "throws " + cause.getClass().getSimpleName();
    }

    /** Makes the argument that a parameter of this type takes; a character stands between ' and ', or is a number. */
    static Object argument(Class<?> type, String text) {
        if (type == boolean.class) {
            return Boolean.valueOf(text);
        }
        if (type == char.class) {
            return text.startsWith("'") ? text.charAt(1) : (char) Integer.parseInt(text);
        }
        return Integer.valueOf(text);
    }
}
