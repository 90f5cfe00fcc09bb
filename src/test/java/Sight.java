import java.util.Arrays;

/** Tells, as texts of many rows, what can be seen of an object by questions. */
final class Sight {
    private final Face face;
    private final StringBuilder rows = new StringBuilder();

    private Sight(Face face) {
        this.face = face;
    }

    /** Returns all that can be seen of what undo and restore bring back, and how much can be undone. */
    static String ofState(Face face) {
        Sight sight = new Sight(face);
        for (int what = 0; what < 10; what++) {
            sight.tell("account", what);
        }
        int leaflets = sight.number("account", 0);
        for (int leaflet = 0; leaflet < leaflets; leaflet++) {
            sight.tellLeaflet(leaflet);
        }
        int cousins = sight.number("account", 1);
        for (int cousin = 0; cousin < cousins; cousin++) {
            sight.tellCousin(cousin, leaflets);
        }
        for (int kind = 0; kind < 6; kind++) {
            sight.tell("tin", kind);
            sight.tell("lost", kind);
        }
        for (int shelf = 0; shelf < 4; shelf++) {
            sight.tell("shelfOf", shelf);
        }
        sight.tell("isEven");
        sight.tell("meanSteps");
        sight.tell("skippedShare");
        return sight.rows.toString();
    }

    private void tellLeaflet(int leaflet) {
        for (int what = 0; what < 8; what++) {
            tell("leafletOf", leaflet, what);
        }
        int steps = number("leafletOf", leaflet, 0);
        for (int step = 0; step < steps; step++) {
            for (int what = 0; what < 5; what++) {
                tell("stepOf", leaflet, step, what);
            }
            tell("canFinish", leaflet, step);
        }
        tell("couldFinish", leaflet);
        tell("bestCousin", leaflet);
        for (int measure = 0; measure < 4; measure++) {
            tell("ranked", measure, leaflet);
        }
    }

    private void tellCousin(int cousin, int leaflets) {
        for (int what = 0; what < 5; what++) {
            tell("cousinOf", cousin, what);
        }
        for (int leaflet = 0; leaflet < leaflets; leaflet++) {
            tell("wouldSkip", cousin, leaflet);
            tell("bestLanguage", cousin, leaflet);
            tell("bestFolds", cousin, leaflet);
            for (int kind = 0; kind < 6; kind++) {
                tell("wouldLeave", cousin, leaflet, kind);
            }
            int steps = number("leafletOf", leaflet, 0);
            for (int step = 0; step < steps; step++) {
                tell("why", cousin, leaflet, step);
                tell("whyAgain", cousin, leaflet, step);
            }
        }
    }

    /** Returns what stays beside, through undo and restore, as well. */
    static String ofAllBeside(Face face) {
        return ofReason(face) + ofText(face) + ofLine(face);
    }

    static String ofReason(Face face) {
        Sight sight = new Sight(face);
        for (int what = 0; what < 3; what++) {
            sight.tell("reason", what);
        }
        return sight.rows.toString();
    }

    static String ofText(Face face) {
        Sight sight = new Sight(face);
        sight.tell("faultPosition");
        sight.tell("account", 10);
        return sight.rows.toString();
    }

    static String ofLine(Face face) {
        StringBuilder line = new StringBuilder();
        for (int index = 0; index < 1000; index++) {
            String answer = face.ask("character", index);
            if (answer.startsWith("throws")) {
                return line.toString();
            }
            line.append(answer);
        }
        return "a line without an end";
    }

    /** Returns what comes to light by undoing all that can be undone, and by restoring; the face is spent then. */
    static String ofPast(Face face) {
        StringBuilder past = new StringBuilder();
        for (int k = 0; k < 10; k++) {
            past.append("undo=").append(face.call("undo")).append('\n').append(ofState(face));
        }
        past.append("restore=").append(face.call("restore")).append('\n').append(ofState(face));
        return past.toString();
    }

    /** Returns what comes to light by carrying out what is in the buffer; the face is spent then. */
    static String ofBuffer(Face face) {
        return "commands=" + face.call("commands") + '\n' + ofText(face) + ofState(face);
    }

    private void tell(String name, Object... arguments) {
        rows.append(name).append(Arrays.toString(arguments)).append('=');
        rows.append(face.ask(name, arguments)).append('\n');
    }

    private int number(String name, Object... arguments) {
        return Integer.parseInt(face.ask(name, arguments));
    }
}
