import java.util.ArrayList;
import java.util.List;

/** Compares the program with a second one, call by call, in many runs of calls that are chosen by a fixed sequence. */
public final class ModelTest {
    private static final int RUNS = 3000;
    /** A text, with what is asked behind it, takes at most 70 more, and looks at the state take what is left of 512. */
    private static final int MOST_CALLS = 350;
    /** Each name as often as it is to be called among the others. */
    private static final String NAMES = "leaflet leaflet step step step step step step fold fold unfold cousin cousin "
            + "learn build build build build finish finish finish finish apart apart move move lose lose find find "
            + "leafletOf stepOf cousinOf why whyAgain wouldSkip wouldLeave bestCousin bestLanguage bestFolds canFinish "
            + "couldFinish couldFinish tin lost shelfOf ranked isEven append commands faultPosition reason reason line "
            + "character meanSteps skippedShare account undo undo save restore TEXT TEXT TEXT TEXT TEXT";
    private static final String[] FORMS = {"l#", "s#:#*#=#", "S#:#*#=##", "S#:#*#=#####", "f#", "u#", "c#=", "c#=##",
        "c#=#####", "b#>#", "b#>#", "d#.#", "d#.#", "t#", "m#@#", "x#*#", "y#*#"};
    private static final int[] ODD = {-1, -2, 6, 7, 8, 9, 10, 31, 32, 33, 64, 100, Integer.MAX_VALUE,
        Integer.MIN_VALUE, Integer.MIN_VALUE + 1};
    private static final String ODD_SIGNS = ";;lsSfucbdtmxy:*=>.@0123456789 -+/?\u0000\u007f\u00e9\u0660\uffff";

    private final Face program = new Face(UnreadLeaflets::new);
    private final Face model = new Face(Model::new);
    private final List<String> calls = new ArrayList<>();
    private long sequence;
    private boolean isWrong;

    private ModelTest(int run) {
        sequence = run * 7919L + 17;
    }

    public static void main(String[] arguments) {
        int wrong = 0;
        for (int run = 0; run < RUNS && wrong < 3; run++) {
            ModelTest test = new ModelTest(run);
            test.go();
            if (test.isWrong) {
                wrong++;
            }
        }
        System.out.println("ModelTest: " + RUNS + " runs, " + wrong + " wrong");
        if (wrong != 0) {
            System.exit(1);
        }
    }

    /** Returns the next number of a fixed sequence, from 0 to below the bound. */
    private int next(int bound) {
        sequence = sequence * 6364136223846793005L + 1442695040888963407L;
        return (int) ((sequence >>> 33) % bound);
    }

    private void go() {
        String[] names = NAMES.split(" ");
        for (int k = 0; program.made() < MOST_CALLS && !isWrong; k++) {
            String name = names[next(names.length)];
            if (name.equals("TEXT")) {
                type(text());
            } else {
                call(name, argumentsOf(name));
            }
            if (k % 16 == 15) {
                same("the state", Sight.ofState(program), Sight.ofState(model));
                same("what stays beside", Sight.ofAllBeside(program), Sight.ofAllBeside(model));
            }
        }
    }

    private void call(String name, Object... given) {
        calls.add(name + java.util.Arrays.toString(given));
        same(name, program.call(name, given), model.call(name, given));
    }

    private void same(String what, String got, String wanted) {
        if (!got.equals(wanted) && !isWrong) {
            isWrong = true;
            System.out.println(String.join("\n", calls));
            System.out.println(what + " answered " + got + ", the model says " + wanted);
        }
    }

    private Object[] argumentsOf(String name) {
        Class<?>[] types = program.parametersOf(name);
        Object[] given = new Object[types.length];
        for (int k = 0; k < given.length; k++) {
            if (types[k] == boolean.class) {
                given[k] = next(2) == 1;
            } else if (types[k] == char.class) {
                given[k] = ODD_SIGNS.charAt(next(ODD_SIGNS.length()));
            } else {
                given[k] = number(name, k);
            }
        }
        return given;
    }

    private int number(String name, int place) {
        if (next(20) == 0) {
            return ODD[next(ODD.length)];
        }
        if (name.equals("step") && place == 3 || name.equals("cousin") && place == 1) {
            return next(31) + 1;
        }
        if (name.equals("step") && place == 2) {
            return next(4) + 1;
        }
        if (name.equals("character")) {
            return next(50);
        }
        return next(next(3) == 0 ? 8 : 4);
    }

    private String text() {
        StringBuilder text = new StringBuilder();
        int count = 1 + next(next(4) == 0 ? 20 : 4);
        for (int k = 0; k < count; k++) {
            text.append(k > 0 ? ";" : "").append(command());
        }
        if (next(4) == 0) {
            int at = next(text.length() + 1);
            char sign = ODD_SIGNS.charAt(next(ODD_SIGNS.length()));
            switch (next(3)) {
                case 0 -> text.insert(at, sign);
                case 1 -> text.setLength(at);
                default -> text.replace(at, Math.min(at + 1, text.length()), String.valueOf(sign));
            }
        }
        return text.toString();
    }

    private String command() {
        String form = FORMS[next(FORMS.length)];
        StringBuilder command = new StringBuilder();
        for (int k = 0; k < form.length(); k++) {
            boolean isDigit = form.charAt(k) == '#';
            command.append(isDigit ? String.valueOf(next(30) == 0 ? next(10) : next(4)) : form.charAt(k));
        }
        return command.toString();
    }

    private void type(String text) {
        for (int k = 0; k < text.length(); k++) {
            call("append", text.charAt(k));
        }
        call("commands");
        call("faultPosition");
        call("account", 10);
        for (int what = 0; what < 3; what++) {
            call("reason", what);
        }
    }
}
