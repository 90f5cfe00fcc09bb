import java.lang.reflect.InvocationTargetException;
import java.lang.reflect.Method;
import java.util.HashMap;
import java.util.Map;
import java.util.NoSuchElementException;
import java.util.Set;

/** Calls the methods of an object by their names, and tells what they answer as texts. */
final class Face {
    private static final Set<Class<?>> THROWN = Set.of(IllegalStateException.class, IllegalArgumentException.class,
            IndexOutOfBoundsException.class, ArithmeticException.class, UnsupportedOperationException.class,
            NoSuchElementException.class);
    private final Object object;
    private final Map<String, Method> methods = new HashMap<>();

    Face(Object object) {
        this.object = object;
        for (Method method : object.getClass().getDeclaredMethods()) {
            if (java.lang.reflect.Modifier.isPublic(method.getModifiers())) {
                method.setAccessible(true);
                methods.put(method.getName(), method);
            }
        }
    }

    Class<?>[] parametersOf(String name) {
        Method method = methods.get(name);
        if (method == null) {
            throw new IllegalArgumentException("no method " + name);
        }
        return method.getParameterTypes();
    }

    /** Returns the answer as a text, or "throws" and the name of the exception's class. */
    String call(String name, Object... arguments) {
        parametersOf(name);
        try {
            return String.valueOf(methods.get(name).invoke(object, arguments));
        } catch (InvocationTargetException e) {
            return thrown(e.getCause());
        } catch (IllegalAccessException e) {
            throw new IllegalStateException(e);
        }
    }

    /** Ends the test if the machine throws by itself: it does so by classes below these, by others, or "by zero". */
    private static String thrown(Throwable cause) {
        if (!THROWN.contains(cause.getClass()) || String.valueOf(cause.getMessage()).contains("by zero")) {
            throw new AssertionError("the machine throws", cause);
        }
        return "throws " + cause.getClass().getSimpleName();
    }

    /** Makes the argument that a parameter of this type takes. */
    static Object argument(Class<?> type, String text) {
        if (type == boolean.class) {
            return Boolean.valueOf(text);
        }
        if (type == char.class) {
            return text.charAt(1);
        }
        return Integer.valueOf(text);
    }

    /** Returns all that can be seen of the state but the line, the reason, the fault position and the buffer. */
    String seen() {
        StringBuilder all = new StringBuilder();
        for (int what = 0; what < 10; what++) {
            tell(all, "account", what);
        }
        for (int leaflet = 0; leaflet < Integer.parseInt(call("account", 0)); leaflet++) {
            tellLeaflet(all, leaflet);
        }
        for (int cousin = 0; cousin < Integer.parseInt(call("account", 1)); cousin++) {
            tellCousin(all, cousin);
        }
        for (int kind = 0; kind < 6; kind++) {
            tell(all, "tin", kind);
            tell(all, "lost", kind);
        }
        tell(all, "isEven");
        tell(all, "meanSteps");
        tell(all, "skippedShare");
        return all.toString();
    }

    private void tellLeaflet(StringBuilder all, int leaflet) {
        for (int what = 0; what < 8; what++) {
            tell(all, "leafletOf", leaflet, what);
        }
        for (int step = 0; step < Integer.parseInt(call("leafletOf", leaflet, 0)); step++) {
            for (int what = 0; what < 5; what++) {
                tell(all, "stepOf", leaflet, step, what);
            }
            tell(all, "canFinish", leaflet, step);
        }
        tell(all, "couldFinish", leaflet);
        tell(all, "bestCousin", leaflet);
        for (int measure = 0; measure < 4; measure++) {
            tell(all, "ranked", measure, leaflet);
        }
    }

    private void tellCousin(StringBuilder all, int cousin) {
        for (int what = 0; what < 5; what++) {
            tell(all, "cousinOf", cousin, what);
        }
        for (int leaflet = 0; leaflet < Integer.parseInt(call("account", 0)); leaflet++) {
            tell(all, "wouldSkip", cousin, leaflet);
            tell(all, "bestLanguage", cousin, leaflet);
            tell(all, "bestFolds", cousin, leaflet);
            for (int kind = 0; kind < 6; kind++) {
                tell(all, "wouldLeave", cousin, leaflet, kind);
            }
            for (int step = 0; step < Integer.parseInt(call("leafletOf", leaflet, 0)); step++) {
                tell(all, "why", cousin, leaflet, step);
                tell(all, "whyAgain", cousin, leaflet, step);
            }
        }
    }

    private void tell(StringBuilder all, String name, Object... arguments) {
        all.append(name).append(java.util.Arrays.toString(arguments)).append('=');
        all.append(call(name, arguments)).append('\n');
    }

    /** Returns the line, the reason, the fault position and the length of the buffer. */
    String seenBeside() {
        StringBuilder all = new StringBuilder();
        tell(all, "faultPosition");
        tell(all, "account", 10);
        for (int what = 0; what < 3; what++) {
            tell(all, "reason", what);
        }
        return all.append(lineSeen()).toString();
    }

    String lineSeen() {
        StringBuilder line = new StringBuilder();
        for (int index = 0; index < 1000; index++) {
            String answer = call("character", index);
            if (answer.startsWith("throws")) {
                return line.toString();
            }
            line.append(answer);
        }
        return "a line without an end";
    }
}
