import java.util.ArrayDeque;
import java.util.ArrayList;
import java.util.Collections;
import java.util.Comparator;
import java.util.Deque;
import java.util.HashSet;
import java.util.List;
import java.util.NoSuchElementException;
import java.util.Set;
import java.util.function.ToIntFunction;
import java.util.regex.Matcher;
import java.util.regex.Pattern;

/**
 * A second program for the same document, made with other means than the first: parts one by one, lists that are
 * copied, refusals that are thrown, and the form of a text as a regular expression. ModelTest compares the two.
 */
final class Model {
    private static final String COMMAND = "(?:[lfut][0-9]|[sS][0-9][:][0-9][*][0-9][=][0-9]{1,5}|[c][0-9][=][0-9]{0,5}"
            + "|[b][0-9][>][0-9]|[d][0-9][.][0-9]|[m][0-9][@][0-9]|[xy][0-9][*][0-9])";
    private static final Pattern TEXT = Pattern.compile(COMMAND + "(?:[;]" + COMMAND + ")*");

    private static final class Refusal extends RuntimeException {
        private static final long serialVersionUID = 1;
        private final int number;
        private final int detail;

        Refusal(int number, int detail) {
            this.number = number;
            this.detail = detail;
        }
    }

    private static final class Step {
        int kind;
        int parts;
        int languages;
        boolean twoSided;
        boolean skipped;

        /** Returns the kind of each single part that the step needs. */
        List<Integer> needs() {
            List<Integer> all = new ArrayList<>(Collections.nCopies(parts, kind));
            if (twoSided) {
                all.addAll(Collections.nCopies(parts, kind == 5 ? 0 : kind + 1));
            }
            return all;
        }

        Step copy() {
            Step copy = new Step();
            copy.kind = kind;
            copy.parts = parts;
            copy.languages = languages;
            copy.twoSided = twoSided;
            copy.skipped = skipped;
            return copy;
        }
    }

    private static final class Leaflet {
        List<Step> steps = new ArrayList<>();
        int folds;
        int shelf;
        int builder = -1;

        Leaflet copy() {
            Leaflet copy = new Leaflet();
            steps.forEach(step -> copy.steps.add(step.copy()));
            copy.folds = folds;
            copy.shelf = shelf;
            copy.builder = builder;
            return copy;
        }

        int open(int someFolds) {
            double open = steps.size();
            for (int k = 0; k < someFolds; k++) {
                open = Math.ceil(open / 2.0);
            }
            return (int) open;
        }

        List<Step> skipped() {
            return steps.stream().filter(step -> step.skipped).toList();
        }
    }

    private static final class Cousin {
        int boast;
        Set<Integer> languages = new HashSet<>();

        Cousin copy() {
            Cousin copy = new Cousin();
            copy.boast = boast;
            copy.languages.addAll(languages);
            return copy;
        }

        int cause(Leaflet leaflet, int step, int someFolds) {
            if (step + 1 > leaflet.open(someFolds)) {
                return 1;
            }
            Set<Integer> common = members(leaflet.steps.get(step).languages);
            common.retainAll(languages);
            if (common.isEmpty()) {
                return 2;
            }
            return boast > leaflet.steps.get(step).needs().size() ? 3 : 0;
        }

        List<Integer> skips(Leaflet leaflet, int someFolds) {
            List<Integer> all = new ArrayList<>();
            for (int step = 0; step < leaflet.steps.size(); step++) {
                if (cause(leaflet, step, someFolds) != 0) {
                    all.add(step);
                }
            }
            return all;
        }
    }

    private static final class State {
        List<Leaflet> leaflets = new ArrayList<>();
        List<Cousin> cousins = new ArrayList<>();
        List<Integer> tin = new ArrayList<>();
        List<Integer> lost = new ArrayList<>();
        int buildings;
        int skips;
        int later;
        int apart;

        State copy() {
            State copy = new State();
            leaflets.forEach(one -> copy.leaflets.add(one.copy()));
            cousins.forEach(one -> copy.cousins.add(one.copy()));
            copy.tin.addAll(tin);
            copy.lost.addAll(lost);
            copy.buildings = buildings;
            copy.skips = skips;
            copy.later = later;
            copy.apart = apart;
            return copy;
        }
    }

    private interface Change {
        int make();
    }

    private State state = new State();
    private State snapshot;
    private final Deque<State> before = new ArrayDeque<>();
    private String buffer = "";
    private String line = "";
    private int fault = -1;
    private int[] reason;

    private static Set<Integer> members(int set) {
        Set<Integer> all = new HashSet<>();
        for (int k = 0; k < 31; k++) {
            if (set / (1 << k) % 2 == 1) {
                all.add(k);
            }
        }
        return all;
    }

    private static int setOf(Iterable<Integer> members) {
        int set = 0;
        for (int member : members) {
            set += 1 << member;
        }
        return set;
    }

    private static int count(List<Integer> parts, int kind) {
        return Collections.frequency(parts, kind);
    }

    private static List<Integer> needs(List<Step> steps) {
        List<Integer> all = new ArrayList<>();
        steps.forEach(step -> all.addAll(step.needs()));
        return all;
    }

    private static void refuseIf(boolean condition, int number, int detail) {
        if (condition) {
            throw new Refusal(number, detail);
        }
    }

    private int made(Change change) {
        State old = state.copy();
        try {
            int answer = change.make();
            keep(old);
            return answer;
        } catch (Refusal refusal) {
            state = old;
            reason = new int[] {refusal.number, refusal.detail, 0};
            throw new UnsupportedOperationException();
        }
    }

    private void keep(State old) {
        before.addLast(old);
        if (before.size() > 8) {
            before.removeFirst();
        }
    }

    private void refuseNoLeaflet(int leaflet) {
        refuseIf(leaflet < 0 || leaflet >= state.leaflets.size(), 3, state.leaflets.size());
    }

    private void refuseNoCousin(int cousin) {
        refuseIf(cousin < 0 || cousin >= state.cousins.size(), 4, state.cousins.size());
    }

    private void refuseBuilt(int leaflet) {
        refuseIf(state.leaflets.get(leaflet).builder >= 0, 6, state.leaflets.get(leaflet).builder);
    }

    private void refuseLacking(List<Integer> parts) {
        for (int kind = 0; kind < 6; kind++) {
            refuseIf(count(parts, kind) > count(state.tin, kind), 10, kind);
        }
    }

    private void refuseFull(int shelf) {
        refuseIf(state.leaflets.stream().filter(one -> one.shelf == shelf).count() == 3, 5, shelf);
    }

    private int lay(int shelf) {
        refuseIf(shelf < 0 || shelf > 3, 1, 0);
        refuseIf(state.leaflets.size() == 8, 2, 8);
        refuseFull(shelf);
        Leaflet added = new Leaflet();
        added.shelf = shelf;
        state.leaflets.add(added);
        return state.leaflets.size() - 1;
    }

    private int add(int leaflet, int kind, int parts, int languages, boolean isTwoSided) {
        refuseNoLeaflet(leaflet);
        refuseIf(kind < 0 || kind > 5 || parts < 1 || parts > 4 || languages < 1 || languages > 31, 1, 0);
        refuseBuilt(leaflet);
        List<Step> steps = state.leaflets.get(leaflet).steps;
        refuseIf(steps.size() == 8, 2, 8);
        Step added = new Step();
        added.kind = kind;
        added.parts = parts;
        added.languages = languages;
        added.twoSided = isTwoSided;
        steps.add(added);
        return steps.size() - 1;
    }

    private int bend(int leaflet, int more, int limit) {
        refuseNoLeaflet(leaflet);
        refuseBuilt(leaflet);
        Leaflet changed = state.leaflets.get(leaflet);
        refuseIf(changed.folds == limit, 11, limit);
        changed.folds += more;
        return changed.open(changed.folds);
    }

    private int come(int boast, int languages) {
        refuseIf(boast < 0 || boast > 5 || languages < 0 || languages > 31, 1, 0);
        refuseIf(state.cousins.size() == 5, 2, 5);
        Cousin added = new Cousin();
        added.boast = boast;
        added.languages = members(languages);
        state.cousins.add(added);
        return state.cousins.size() - 1;
    }

    private int teach(int cousin, int language) {
        refuseNoCousin(cousin);
        refuseIf(language < 0 || language > 4, 1, 0);
        refuseIf(!state.cousins.get(cousin).languages.add(language), 12, language);
        return state.cousins.get(cousin).languages.size();
    }

    private int letBuild(int cousin, int leaflet) {
        refuseNoCousin(cousin);
        refuseNoLeaflet(leaflet);
        refuseBuilt(leaflet);
        Leaflet changed = state.leaflets.get(leaflet);
        List<Integer> skipped = state.cousins.get(cousin).skips(changed, changed.folds);
        for (int step : skipped) {
            changed.steps.get(step).skipped = true;
            state.tin.addAll(changed.steps.get(step).needs());
        }
        changed.builder = cousin;
        state.buildings++;
        state.skips += skipped.size();
        return changed.steps.size() - skipped.size();
    }

    private int later(int leaflet, int step) {
        refuseNoLeaflet(leaflet);
        Leaflet changed = state.leaflets.get(leaflet);
        refuseIf(changed.builder < 0, 7, 0);
        refuseIf(step < 0 || step >= changed.steps.size(), 8, changed.steps.size());
        refuseIf(!changed.steps.get(step).skipped, 9, step);
        refuseLacking(changed.steps.get(step).needs());
        changed.steps.get(step).needs().forEach(state.tin::remove);
        changed.steps.get(step).skipped = false;
        state.later++;
        return changed.skipped().size();
    }

    private int dismantle(int leaflet) {
        refuseNoLeaflet(leaflet);
        Leaflet changed = state.leaflets.get(leaflet);
        refuseIf(changed.builder < 0, 7, 0);
        List<Integer> parts = needs(changed.skipped());
        refuseLacking(parts);
        parts.forEach(state.tin::remove);
        changed.steps.forEach(step -> step.skipped = false);
        changed.builder = -1;
        state.apart++;
        return parts.size();
    }

    private int carry(int leaflet, int shelf) {
        refuseNoLeaflet(leaflet);
        refuseIf(shelf < 0 || shelf > 3, 1, 0);
        Leaflet changed = state.leaflets.get(leaflet);
        refuseIf(changed.shelf == shelf, 12, shelf);
        refuseFull(shelf);
        int old = changed.shelf;
        changed.shelf = shelf;
        return old;
    }

    private int shift(int kind, int parts, List<Integer> from, List<Integer> to, int number) {
        refuseIf(kind < 0 || kind > 5 || parts < 1 || parts > 9, 1, 0);
        refuseIf(count(from, kind) < parts, number, number == 10 ? kind : count(from, kind));
        for (int k = 0; k < parts; k++) {
            from.remove(Integer.valueOf(kind));
            to.add(kind);
        }
        return count(from, kind);
    }

    public int leaflet(int shelf) {
        return made(() -> lay(shelf));
    }

    public int step(int leaflet, int kind, int parts, int languages, boolean isTwoSided) {
        return made(() -> add(leaflet, kind, parts, languages, isTwoSided));
    }

    public int fold(int leaflet) {
        return made(() -> bend(leaflet, 1, 3));
    }

    public int unfold(int leaflet) {
        return made(() -> bend(leaflet, -1, 0));
    }

    public int cousin(int boast, int languages) {
        return made(() -> come(boast, languages));
    }

    public int learn(int cousin, int language) {
        return made(() -> teach(cousin, language));
    }

    public int build(int cousin, int leaflet) {
        return made(() -> letBuild(cousin, leaflet));
    }

    public int finish(int leaflet, int step) {
        return made(() -> later(leaflet, step));
    }

    public int apart(int leaflet) {
        return made(() -> dismantle(leaflet));
    }

    public int move(int leaflet, int shelf) {
        return made(() -> carry(leaflet, shelf));
    }

    public int lose(int kind, int parts) {
        return made(() -> shift(kind, parts, state.tin, state.lost, 10));
    }

    public int find(int kind, int parts) {
        return made(() -> shift(kind, parts, state.lost, state.tin, 13));
    }

    private Leaflet leafletAt(int leaflet) {
        if (leaflet < 0 || leaflet >= state.leaflets.size()) {
            throw new IndexOutOfBoundsException();
        }
        return state.leaflets.get(leaflet);
    }

    private Cousin cousinAt(int cousin) {
        if (cousin < 0 || cousin >= state.cousins.size()) {
            throw new IndexOutOfBoundsException();
        }
        return state.cousins.get(cousin);
    }

    private Step stepAt(int leaflet, int step) {
        Leaflet asked = leafletAt(leaflet);
        if (step < 0 || step >= asked.steps.size()) {
            throw new NoSuchElementException();
        }
        return asked.steps.get(step);
    }

    private static int chosen(int what, int... numbers) {
        if (what < 0 || what >= numbers.length) {
            throw new IllegalArgumentException();
        }
        return numbers[what];
    }

    public int leafletOf(int leaflet, int what) {
        Leaflet asked = leafletAt(leaflet);
        return chosen(what, asked.steps.size(), asked.folds, asked.open(asked.folds), asked.shelf, asked.builder,
                asked.skipped().size(), needs(asked.steps).size(), needs(asked.skipped()).size());
    }

    public int stepOf(int leaflet, int step, int what) {
        Step asked = stepAt(leaflet, step);
        return chosen(what, asked.kind, asked.needs().size(), asked.languages, asked.twoSided ? 1 : 0,
                asked.skipped ? 1 : 0);
    }

    public int cousinOf(int cousin, int what) {
        Cousin asked = cousinAt(cousin);
        List<Leaflet> built = state.leaflets.stream().filter(one -> one.builder == cousin).toList();
        return chosen(what, asked.boast, setOf(asked.languages), asked.languages.size(), built.size(),
                built.stream().mapToInt(one -> one.skipped().size()).sum());
    }

    public int why(int cousin, int leaflet, int step) {
        Cousin reader = cousinAt(cousin);
        stepAt(leaflet, step);
        return reader.cause(leafletAt(leaflet), step, leafletAt(leaflet).folds);
    }

    public int whyAgain(int cousin, int leaflet, int step) {
        return why(cousin, leaflet, step);
    }

    public int wouldSkip(int cousin, int leaflet) {
        return setOf(cousinAt(cousin).skips(leafletAt(leaflet), leafletAt(leaflet).folds));
    }

    public int wouldLeave(int cousin, int leaflet, int kind) {
        Leaflet asked = leafletAt(leaflet);
        List<Step> skipped = new ArrayList<>();
        cousinAt(cousin).skips(asked, asked.folds).forEach(step -> skipped.add(asked.steps.get(step)));
        requireKind(kind);
        return count(needs(skipped), kind);
    }

    private static void requireKind(int kind) {
        if (kind < 0 || kind > 5) {
            throw new IllegalArgumentException();
        }
    }

    public int bestCousin(int leaflet) {
        Leaflet asked = leafletAt(leaflet);
        Comparator<Cousin> order = Comparator.comparingInt(one -> one.skips(asked, asked.folds).size());
        Cousin best = state.cousins.stream().min(order.thenComparingInt(one -> one.boast)
                .thenComparingInt(state.cousins::indexOf)).orElseThrow(NoSuchElementException::new);
        return state.cousins.indexOf(best);
    }

    public int bestLanguage(int cousin, int leaflet) {
        Cousin reader = cousinAt(cousin);
        Leaflet asked = leafletAt(leaflet);
        int[] skipped = new int[5];
        for (int language = 0; language < 5; language++) {
            Cousin taught = reader.copy();
            taught.languages.add(language);
            skipped[language] = taught.skips(asked, asked.folds).size();
        }
        for (int wanted = 0; wanted < reader.skips(asked, asked.folds).size(); wanted++) {
            for (int language = 0; language < 5; language++) {
                if (skipped[language] == wanted) {
                    return language;
                }
            }
        }
        throw new NoSuchElementException();
    }

    public int bestFolds(int cousin, int leaflet) {
        Cousin reader = cousinAt(cousin);
        Leaflet asked = leafletAt(leaflet);
        int folds = 3;
        while (reader.skips(asked, folds).size() > reader.skips(asked, 0).size()) {
            folds--;
        }
        return folds;
    }

    public boolean canFinish(int leaflet, int step) {
        stepAt(leaflet, step);
        State old = state.copy();
        try {
            later(leaflet, step);
            return true;
        } catch (Refusal refusal) {
            return false;
        } finally {
            state = old;
        }
    }

    public int couldFinish(int leaflet) {
        leafletAt(leaflet);
        State old = state.copy();
        int done = 0;
        for (int step = 0; step < old.leaflets.get(leaflet).steps.size(); step++) {
            if (canFinish(leaflet, step)) {
                later(leaflet, step);
                done++;
            }
        }
        state = old;
        return done;
    }

    public int tin(int kind) {
        requireKind(kind);
        return count(state.tin, kind);
    }

    public int lost(int kind) {
        requireKind(kind);
        return count(state.lost, kind);
    }

    public int shelfOf(int shelf) {
        if (shelf < 0 || shelf > 3) {
            throw new IllegalArgumentException();
        }
        List<Integer> all = new ArrayList<>();
        for (int k = 0; k < state.leaflets.size(); k++) {
            if (state.leaflets.get(k).shelf == shelf) {
                all.add(k);
            }
        }
        return setOf(all);
    }

    public int ranked(int measure, int place) {
        List<ToIntFunction<Leaflet>> measures = List.of(one -> one.steps.size(), one -> one.folds,
                one -> needs(one.steps).size(), one -> one.skipped().size());
        if (measure < 0 || measure > 3) {
            throw new IllegalArgumentException();
        }
        List<Integer> order = new ArrayList<>();
        for (int k = 0; k < state.leaflets.size(); k++) {
            order.add(k);
        }
        order.sort(Comparator.comparingInt(k -> -measures.get(measure).applyAsInt(state.leaflets.get(k))));
        if (place < 0 || place >= order.size()) {
            throw new NoSuchElementException();
        }
        return order.get(place);
    }

    public boolean isEven() {
        List<Integer> left = new ArrayList<>(state.tin);
        left.addAll(state.lost);
        List<Integer> needed = new ArrayList<>();
        state.leaflets.forEach(one -> needed.addAll(needs(one.skipped())));
        Collections.sort(left);
        Collections.sort(needed);
        return left.equals(needed);
    }

    public int append(char character) {
        if (buffer.length() == 60) {
            throw new IllegalStateException();
        }
        buffer += character;
        return buffer.length();
    }

    private static boolean canContinue(String text) {
        Matcher matcher = TEXT.matcher(text);
        return matcher.matches() || matcher.hitEnd();
    }

    private static int faultOf(String text) {
        if (TEXT.matcher(text).matches()) {
            return -1;
        }
        for (int length = 1; length <= text.length(); length++) {
            if (!canContinue(text.substring(0, length))) {
                return length - 1;
            }
        }
        return text.length();
    }

    public int commands() {
        String text = buffer;
        buffer = "";
        fault = faultOf(text);
        if (fault >= 0) {
            throw new IllegalArgumentException();
        }
        String[] parts = text.split(";");
        State old = state.copy();
        for (int k = 0; k < parts.length; k++) {
            try {
                carryOut(parts[k]);
            } catch (Refusal refusal) {
                state = old;
                reason = new int[] {refusal.number, refusal.detail, k};
                throw new UnsupportedOperationException();
            }
        }
        keep(old);
        return parts.length;
    }

    private static int digit(String command, int index) {
        return Integer.parseInt(command.substring(index, index + 1));
    }

    private static int languages(String command) {
        Set<Integer> all = new HashSet<>();
        for (int k = command.indexOf('=') + 1; k < command.length(); k++) {
            all.add(digit(command, k));
        }
        return setOf(all);
    }

    private int carryOut(String command) {
        int first = digit(command, 1);
        int second = command.length() > 3 ? digit(command, 3) : -1;
        return switch (command.charAt(0)) {
            case 'l' -> lay(first);
            case 's', 'S' -> add(first, second, digit(command, 5), languages(command), command.charAt(0) == 'S');
            case 'f' -> bend(first, 1, 3);
            case 'u' -> bend(first, -1, 0);
            case 'c' -> come(first, languages(command));
            case 'b' -> letBuild(first, second);
            case 'd' -> later(first, second);
            case 't' -> dismantle(first);
            case 'm' -> carry(first, second);
            case 'x' -> shift(first, second, state.tin, state.lost, 10);
            default -> shift(first, second, state.lost, state.tin, 13);
        };
    }

    public int faultPosition() {
        return fault;
    }

    public int reason(int what) {
        if (what < 0 || what > 2) {
            throw new IllegalArgumentException();
        }
        if (reason == null) {
            throw new NoSuchElementException();
        }
        return reason[what];
    }

    public int line(int leaflet) {
        Leaflet asked = leafletAt(leaflet);
        List<String> words = new ArrayList<>();
        int open = asked.open(asked.folds);
        for (Step step : asked.steps) {
            words.add(step.kind + "*" + step.parts + (step.twoSided ? "+" : "") + (step.skipped ? "?" : "")
                    + (words.size() == open - 1 && asked.steps.size() > open ? "/" : ""));
        }
        line = String.join(" ", words);
        return line.length();
    }

    public char character(int index) {
        if (index < 0 || index >= line.length()) {
            throw new IndexOutOfBoundsException();
        }
        return line.charAt(index);
    }

    public double meanSteps() {
        return state.leaflets.stream().mapToInt(one -> one.steps.size()).average()
                .orElseThrow(ArithmeticException::new);
    }

    public float skippedShare() {
        List<Step> all = new ArrayList<>();
        state.leaflets.stream().filter(one -> one.builder >= 0).forEach(one -> all.addAll(one.steps));
        if (all.isEmpty()) {
            throw new ArithmeticException();
        }
        float skipped = all.stream().filter(step -> step.skipped).count();
        return skipped / all.size();
    }

    public int account(int what) {
        int steps = state.leaflets.stream().mapToInt(one -> one.steps.size()).sum();
        int built = (int) state.leaflets.stream().filter(one -> one.builder >= 0).count();
        return chosen(what, state.leaflets.size(), state.cousins.size(), steps, built, state.tin.size(),
                state.buildings, state.skips, state.later, state.apart, before.size(), buffer.length());
    }

    public int undo() {
        if (before.isEmpty()) {
            throw new IllegalStateException();
        }
        state = before.removeLast();
        return before.size();
    }

    public int save() {
        snapshot = state.copy();
        return state.leaflets.size();
    }

    public int restore() {
        if (snapshot == null) {
            throw new IllegalStateException();
        }
        state = snapshot.copy();
        before.clear();
        return state.leaflets.size();
    }
}
