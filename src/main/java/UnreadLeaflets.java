import java.util.NoSuchElementException;

/** An archive of instructions that nobody reads. The document's numbered promises tell what it does. */
public final class UnreadLeaflets {
    private static final int MOST_LEAFLETS = 8;
    private static final int MOST_STEPS = 8;
    private static final int MOST_FOLDS = 3;
    private static final int MOST_COUSINS = 5;
    private static final int MOST_BOAST = 5;
    private static final int MOST_PARTS_OF_STEP = 4;
    private static final int MOST_PARTS_MOVED = 9;
    private static final int MOST_UNDOS = 8;
    private static final int KINDS = 6;
    private static final int LANGUAGES = 5;
    private static final int ALL_LANGUAGES = 31;
    private static final int SHELVES = 4;
    private static final int SHELF_ROOM = 3;
    private static final int TEXT_ROOM = 60;
    /** The shortest command has two characters, and a ";" stands between two. */
    private static final int MOST_COMMANDS = 20;
    private static final int MOST_NUMBERS = 3;
    private static final int MOST_LANGUAGE_DIGITS = 5;
    /** Five characters for each of eight steps, seven blanks and a "/". */
    private static final int LINE_ROOM = 48;

    private static final int NONE = -1;
    /** No change answers a number below 0, so that this one can tell that it was refused. */
    private static final int REFUSED = -1;

    private static final int CAUSE_FOLDED = 1;
    private static final int CAUSE_UNREAD = 2;
    private static final int CAUSE_BELOW_BOAST = 3;

    private static final int OUT_OF_RANGE = 1;
    private static final int AS_MANY_AS_CAN_BE = 2;
    private static final int NO_LEAFLET = 3;
    private static final int NO_COUSIN = 4;
    private static final int SHELF_FULL = 5;
    private static final int BUILT = 6;
    private static final int NOT_BUILT = 7;
    private static final int NO_STEP = 8;
    private static final int STEP_DONE = 9;
    private static final int TOO_FEW_IN_TIN = 10;
    private static final int AS_MANY_FOLDS = 11;
    private static final int SO_ALREADY = 12;
    private static final int FEWER_LOST = 13;

    private final Changes changes = new Changes();
    private final Archive archive = changes.archive;
    private final Reason kept = changes.kept;
    private final History history = new History();
    private final Archive snapshot = new Archive();
    private boolean hasSnapshot;
    private final Text text = new Text();
    private final Line written = new Line();
    private final Tin trialTin = new Tin();

    public UnreadLeaflets() {
    }

    // ---- changes

    public int leaflet(int shelf) throws UnsupportedOperationException {
        history.note(archive);
        return settled(changes.layLeaflet(shelf));
    }

    public int step(int leaflet, int kind, int parts, int languages, boolean isTwoSided)
            throws UnsupportedOperationException {
        history.note(archive);
        return settled(changes.addStep(leaflet, kind, parts, languages, isTwoSided));
    }

    public int fold(int leaflet) throws UnsupportedOperationException {
        history.note(archive);
        return settled(changes.changeFolds(leaflet, 1));
    }

    public int unfold(int leaflet) throws UnsupportedOperationException {
        history.note(archive);
        return settled(changes.changeFolds(leaflet, -1));
    }

    public int cousin(int boast, int languages) throws UnsupportedOperationException {
        history.note(archive);
        return settled(changes.letCome(boast, languages));
    }

    public int learn(int cousin, int language) throws UnsupportedOperationException {
        history.note(archive);
        return settled(changes.letLearn(cousin, language));
    }

    public int build(int cousin, int leaflet) throws UnsupportedOperationException {
        history.note(archive);
        return settled(changes.letBuild(cousin, leaflet));
    }

    public int finish(int leaflet, int step) throws UnsupportedOperationException {
        history.note(archive);
        return settled(changes.doLater(leaflet, step));
    }

    public int apart(int leaflet) throws UnsupportedOperationException {
        history.note(archive);
        return settled(changes.takeApart(leaflet));
    }

    public int move(int leaflet, int shelf) throws UnsupportedOperationException {
        history.note(archive);
        return settled(changes.moveBox(leaflet, shelf));
    }

    public int lose(int kind, int parts) throws UnsupportedOperationException {
        history.note(archive);
        return settled(changes.loseParts(kind, parts));
    }

    public int find(int kind, int parts) throws UnsupportedOperationException {
        history.note(archive);
        return settled(changes.findParts(kind, parts));
    }

    /** Ends a change that history has noted: keeps what there was before, or tells that it was refused. */
    private int settled(int answer) {
        if (answer == REFUSED) {
            throw new UnsupportedOperationException("refused");
        }
        history.keep();
        return answer;
    }

    // ---- numbers of leaflets, steps and cousins

    public int leafletOf(int leaflet, int what) throws IndexOutOfBoundsException, IllegalArgumentException {
        Leaflet asked = leafletAt(leaflet);
        switch (what) {
            case 0: return asked.steps;
            case 1: return asked.folds;
            case 2: return asked.open();
            case 3: return asked.shelf;
            case 4: return asked.builder;
            case 5: return asked.skippedSteps();
            case 6: return asked.partsOf(asked.allSteps());
            case 7: return asked.partsOf(asked.skipped);
            default: throw new IllegalArgumentException("no such number of a leaflet");
        }
    }

    public int stepOf(int leaflet, int step, int what)
            throws IndexOutOfBoundsException, NoSuchElementException, IllegalArgumentException {
        Leaflet asked = leafletAt(leaflet);
        requireStep(asked, step);
        switch (what) {
            case 0: return asked.kinds[step];
            case 1: return asked.partsOfStep(step);
            case 2: return asked.languages[step];
            case 3: return asked.sides[step] - 1;
            case 4: return asked.isSkipped(step) ? 1 : 0;
            default: throw new IllegalArgumentException("no such number of a step");
        }
    }

    public int cousinOf(int cousin, int what) throws IndexOutOfBoundsException, IllegalArgumentException {
        Cousin asked = cousinAt(cousin);
        switch (what) {
            case 0: return asked.boast;
            case 1: return asked.languages;
            case 2: return Integer.bitCount(asked.languages);
            case 3: return archive.leafletsBuiltBy(cousin);
            case 4: return archive.stepsSkippedBy(cousin);
            default: throw new IllegalArgumentException("no such number of a cousin");
        }
    }

    private Leaflet leafletAt(int leaflet) {
        if (!archive.hasLeaflet(leaflet)) {
            throw new IndexOutOfBoundsException("no such leaflet");
        }
        return archive.leaflets[leaflet];
    }

    private Cousin cousinAt(int cousin) {
        if (!archive.hasCousin(cousin)) {
            throw new IndexOutOfBoundsException("no such cousin");
        }
        return archive.cousins[cousin];
    }

    private void requireStep(Leaflet asked, int step) {
        if (!asked.hasStep(step)) {
            throw new NoSuchElementException("no such step");
        }
    }

    private void requireKind(int kind) {
        if (!isWithin(kind, 0, KINDS - 1)) {
            throw new IllegalArgumentException("no such kind");
        }
    }

    // ---- what would be skipped

    public int why(int cousin, int leaflet, int step) throws IndexOutOfBoundsException, NoSuchElementException {
        Cousin reader = cousinAt(cousin);
        Leaflet asked = leafletAt(leaflet);
        requireStep(asked, step);
        if (step >= asked.open()) {
            return CAUSE_FOLDED;
        }
        if ((asked.languages[step] & reader.languages) == 0) {
            return CAUSE_UNREAD;
        }
        if (asked.partsOfStep(step) < reader.boast) {
            return CAUSE_BELOW_BOAST;
        }
        return 0;
    }

    public int whyAgain(int cousin, int leaflet, int step) throws IndexOutOfBoundsException, NoSuchElementException {
        Cousin reader = cousinAt(cousin);
        Leaflet asked = leafletAt(leaflet);
        requireStep(asked, step);
        if (contains(asked.stepsUnder(asked.folds), step)) {
            return CAUSE_FOLDED;
        }
        if (contains(asked.stepsUnreadBy(reader.languages), step)) {
            return CAUSE_UNREAD;
        }
        if (contains(asked.stepsBelow(reader.boast), step)) {
            return CAUSE_BELOW_BOAST;
        }
        return 0;
    }

    public int wouldSkip(int cousin, int leaflet) throws IndexOutOfBoundsException {
        Cousin reader = cousinAt(cousin);
        Leaflet asked = leafletAt(leaflet);
        return asked.stepsSkippedBy(reader);
    }

    public int wouldLeave(int cousin, int leaflet, int kind)
            throws IndexOutOfBoundsException, IllegalArgumentException {
        Cousin reader = cousinAt(cousin);
        Leaflet asked = leafletAt(leaflet);
        requireKind(kind);
        return asked.needOf(asked.stepsSkippedBy(reader), kind);
    }

    public int bestCousin(int leaflet) throws IndexOutOfBoundsException, NoSuchElementException {
        Leaflet asked = leafletAt(leaflet);
        if (archive.cousinCount == 0) {
            throw new NoSuchElementException("there are no cousins");
        }
        int best = 0;
        for (int k = 1; k < archive.cousinCount; k++) {
            if (isBetter(archive.cousins[k], archive.cousins[best], asked)) {
                best = k;
            }
        }
        return best;
    }

    private static boolean isBetter(Cousin one, Cousin other, Leaflet asked) {
        int byOne = Integer.bitCount(asked.stepsSkippedBy(one));
        int byOther = Integer.bitCount(asked.stepsSkippedBy(other));
        if (byOne != byOther) {
            return byOne < byOther;
        }
        return one.boast < other.boast;
    }

    public int bestLanguage(int cousin, int leaflet) throws IndexOutOfBoundsException, NoSuchElementException {
        Cousin reader = cousinAt(cousin);
        Leaflet asked = leafletAt(leaflet);
        int fewest = Integer.bitCount(asked.stepsSkippedBy(reader));
        int best = NONE;
        for (int language = 0; language < LANGUAGES; language++) {
            int languages = reader.languages | 1 << language;
            int skipped = Integer.bitCount(asked.stepsSkippedWith(languages, reader.boast, asked.folds));
            if (skipped < fewest) {
                fewest = skipped;
                best = language;
            }
        }
        if (best == NONE) {
            throw new NoSuchElementException("no language would make the skipped steps fewer");
        }
        return best;
    }

    public int bestFolds(int cousin, int leaflet) throws IndexOutOfBoundsException {
        Cousin reader = cousinAt(cousin);
        Leaflet asked = leafletAt(leaflet);
        int withoutFolds = Integer.bitCount(asked.stepsSkippedWith(reader.languages, reader.boast, 0));
        int best = 0;
        for (int folds = 1; folds <= MOST_FOLDS; folds++) {
            int skipped = Integer.bitCount(asked.stepsSkippedWith(reader.languages, reader.boast, folds));
            if (skipped <= withoutFolds) {
                best = folds;
            }
        }
        return best;
    }

    // ---- the tin and the shelves

    public boolean canFinish(int leaflet, int step) throws IndexOutOfBoundsException, NoSuchElementException {
        Leaflet asked = leafletAt(leaflet);
        requireStep(asked, step);
        return asked.isSkipped(step) && archive.tin.kindLacking(asked, 1 << step) == NONE;
    }

    public int couldFinish(int leaflet) throws IndexOutOfBoundsException {
        Leaflet asked = leafletAt(leaflet);
        trialTin.copyFrom(archive.tin);
        int finished = 0;
        for (int step = 0; step < asked.steps; step++) {
            if (asked.isSkipped(step) && trialTin.kindLacking(asked, 1 << step) == NONE) {
                trialTin.takeOut(asked, 1 << step);
                finished++;
            }
        }
        return finished;
    }

    public int tin(int kind) throws IllegalArgumentException {
        requireKind(kind);
        return archive.tin.inside[kind];
    }

    public int lost(int kind) throws IllegalArgumentException {
        requireKind(kind);
        return archive.tin.lost[kind];
    }

    public int shelfOf(int shelf) throws IllegalArgumentException {
        if (!isShelf(shelf)) {
            throw new IllegalArgumentException("no such shelf");
        }
        return archive.leafletsOn(shelf);
    }

    public int ranked(int measure, int place) throws IllegalArgumentException, NoSuchElementException {
        if (!isWithin(measure, 0, 3)) {
            throw new IllegalArgumentException("no such measure");
        }
        for (int k = 0; k < archive.leafletCount; k++) {
            if (placeOf(k, measure) == place) {
                return k;
            }
        }
        throw new NoSuchElementException("no such place");
    }

    /** Returns how many leaflets come before one. */
    private int placeOf(int leaflet, int measure) {
        int own = measured(leaflet, measure);
        int before = 0;
        for (int k = 0; k < archive.leafletCount; k++) {
            int other = measured(k, measure);
            if (other > own || other == own && k < leaflet) {
                before++;
            }
        }
        return before;
    }

    private int measured(int leaflet, int measure) {
        Leaflet asked = archive.leaflets[leaflet];
        switch (measure) {
            case 0: return asked.steps;
            case 1: return asked.folds;
            case 2: return asked.partsOf(asked.allSteps());
            default: return asked.skippedSteps();
        }
    }

    public boolean isEven() {
        for (int kind = 0; kind < KINDS; kind++) {
            if (archive.tin.inside[kind] + archive.tin.lost[kind] != archive.needOfSkipped(kind)) {
                return false;
            }
        }
        return true;
    }

    // ---- commands as texts

    public int append(char character) throws IllegalStateException {
        if (text.isFull()) {
            throw new IllegalStateException("the text buffer is full");
        }
        return text.add(character);
    }

    public int commands() throws IllegalArgumentException, UnsupportedOperationException {
        text.readAndEmpty();
        if (text.fault != NONE) {
            throw new IllegalArgumentException("the text has a fault");
        }
        history.note(archive);
        int refused = firstRefused();
        if (refused != NONE) {
            history.takeBack(archive);
            kept.command = refused;
            throw new UnsupportedOperationException("a command is refused");
        }
        history.keep();
        return text.commandCount;
    }

    /** Carries out the commands up to the first that is refused, and returns the index of that one. */
    private int firstRefused() {
        for (int k = 0; k < text.commandCount; k++) {
            if (carriedOut(text.commands[k]) == REFUSED) {
                return k;
            }
        }
        return NONE;
    }

    private int carriedOut(Command command) {
        int first = command.numbers[0];
        int second = command.numbers[1];
        int third = command.numbers[2];
        switch (command.letter) {
            case 'l': return changes.layLeaflet(first);
            case 's': return changes.addStep(first, second, third, command.languages, false);
            case 'S': return changes.addStep(first, second, third, command.languages, true);
            case 'f': return changes.changeFolds(first, 1);
            case 'u': return changes.changeFolds(first, -1);
            case 'c': return changes.letCome(first, command.languages);
            case 'b': return changes.letBuild(first, second);
            case 'd': return changes.doLater(first, second);
            case 't': return changes.takeApart(first);
            case 'm': return changes.moveBox(first, second);
            case 'x': return changes.loseParts(first, second);
            default: return changes.findParts(first, second);
        }
    }

    public int faultPosition() {
        return text.fault;
    }

    public int reason(int what) throws IllegalArgumentException, NoSuchElementException {
        if (!isWithin(what, 0, 2)) {
            throw new IllegalArgumentException("no such number of a reason");
        }
        if (kept.number == 0) {
            throw new NoSuchElementException("nothing was refused");
        }
        switch (what) {
            case 0: return kept.number;
            case 1: return kept.detail;
            default: return kept.command;
        }
    }

    // ---- lines and accounts

    public int line(int leaflet) throws IndexOutOfBoundsException {
        written.write(leafletAt(leaflet));
        return written.length;
    }

    public char character(int index) throws IndexOutOfBoundsException {
        if (!isWithin(index, 0, written.length - 1)) {
            throw new IndexOutOfBoundsException("no such character");
        }
        return written.characters[index];
    }

    public double meanSteps() throws ArithmeticException {
        if (archive.leafletCount == 0) {
            throw new ArithmeticException("there are no leaflets");
        }
        return (double) archive.stepsOfAll() / (double) archive.leafletCount;
    }

    public float skippedShare() throws ArithmeticException {
        int steps = archive.stepsOfBuilt();
        if (steps == 0) {
            throw new ArithmeticException("no leaflet with steps is built");
        }
        return (float) archive.stepsSkipped() / (float) steps;
    }

    public int account(int what) throws IllegalArgumentException {
        switch (what) {
            case 0: return archive.leafletCount;
            case 1: return archive.cousinCount;
            case 2: return archive.stepsOfAll();
            case 3: return archive.leafletsBuilt();
            case 4: return archive.tin.allInside();
            case 5: return archive.buildingsSoFar;
            case 6: return archive.skippedSoFar;
            case 7: return archive.doneLaterSoFar;
            case 8: return archive.takenApartSoFar;
            case 9: return history.count;
            case 10: return text.length;
            default: throw new IllegalArgumentException("no such account");
        }
    }

    // ---- undo and the snapshot

    public int undo() throws IllegalStateException {
        if (history.count == 0) {
            throw new IllegalStateException("there is nothing to undo");
        }
        history.stepBack(archive);
        return history.count;
    }

    public int save() {
        snapshot.copyFrom(archive);
        hasSnapshot = true;
        return archive.leafletCount;
    }

    public int restore() throws IllegalStateException {
        if (!hasSnapshot) {
            throw new IllegalStateException("there is no snapshot");
        }
        archive.copyFrom(snapshot);
        history.forget();
        return archive.leafletCount;
    }

    // ---- ranges and sets

    private static boolean isWithin(int number, int lowest, int highest) {
        return number >= lowest && number <= highest;
    }

    private static boolean isShelf(int shelf) {
        return isWithin(shelf, 0, SHELVES - 1);
    }

    private static boolean contains(int set, int member) {
        return (set >> member & 1) != 0;
    }

    /** A leaflet with its steps, in its box. */
    private static final class Leaflet {
        int steps;
        int folds;
        int shelf;
        /** The cousin who built it, or NONE. */
        int builder;
        /** The set of the steps that are skipped; empty if it is not built. */
        int skipped;
        final int[] kinds = new int[MOST_STEPS];
        final int[] parts = new int[MOST_STEPS];
        final int[] languages = new int[MOST_STEPS];
        final int[] sides = new int[MOST_STEPS];

        /** Makes this row a new leaflet, whatever it held before. */
        void layOn(int newShelf) {
            steps = 0;
            folds = 0;
            shelf = newShelf;
            builder = NONE;
            skipped = 0;
        }

        void copyFrom(Leaflet other) {
            steps = other.steps;
            folds = other.folds;
            shelf = other.shelf;
            builder = other.builder;
            skipped = other.skipped;
            System.arraycopy(other.kinds, 0, kinds, 0, MOST_STEPS);
            System.arraycopy(other.parts, 0, parts, 0, MOST_STEPS);
            System.arraycopy(other.languages, 0, languages, 0, MOST_STEPS);
            System.arraycopy(other.sides, 0, sides, 0, MOST_STEPS);
        }

        boolean hasStep(int step) {
            return isWithin(step, 0, steps - 1);
        }

        boolean isBuilt() {
            return builder != NONE;
        }

        boolean isSkipped(int step) {
            return contains(skipped, step);
        }

        int skippedSteps() {
            return Integer.bitCount(skipped);
        }

        int allSteps() {
            return (1 << steps) - 1;
        }

        int open() {
            return openWith(folds);
        }

        int openWith(int someFolds) {
            int open = steps;
            for (int k = 0; k < someFolds; k++) {
                open = (open + 1) / 2;
            }
            return open;
        }

        int partsOfStep(int step) {
            return parts[step] * sides[step];
        }

        int partsOf(int set) {
            int sum = 0;
            for (int step = 0; step < steps; step++) {
                if (contains(set, step)) {
                    sum += partsOfStep(step);
                }
            }
            return sum;
        }

        /** Returns how many parts of a kind a set of steps needs. */
        int needOf(int set, int kind) {
            int sum = 0;
            for (int step = 0; step < steps; step++) {
                if (contains(set, step) && usesKind(step, kind)) {
                    sum += parts[step];
                }
            }
            return sum;
        }

        private boolean usesKind(int step, int kind) {
            return kinds[step] == kind || sides[step] == 2 && (kinds[step] + 1) % KINDS == kind;
        }

        /** Returns the set of the steps under the folds: those from the first that does not lie open to the last. */
        int stepsUnder(int someFolds) {
            return (1 << steps) - (1 << openWith(someFolds));
        }

        int stepsUnreadBy(int knownLanguages) {
            int set = 0;
            for (int step = 0; step < steps; step++) {
                if ((languages[step] & knownLanguages) == 0) {
                    set |= 1 << step;
                }
            }
            return set;
        }

        int stepsBelow(int boast) {
            int set = 0;
            for (int step = 0; step < steps; step++) {
                if (partsOfStep(step) < boast) {
                    set |= 1 << step;
                }
            }
            return set;
        }

        int stepsSkippedWith(int knownLanguages, int boast, int someFolds) {
            return stepsUnder(someFolds) | stepsUnreadBy(knownLanguages) | stepsBelow(boast);
        }

        int stepsSkippedBy(Cousin reader) {
            return stepsSkippedWith(reader.languages, reader.boast, folds);
        }
    }

    /** A cousin who knows languages and boasts. */
    private static final class Cousin {
        int boast;
        int languages;

        void copyFrom(Cousin other) {
            boast = other.boast;
            languages = other.languages;
        }
    }

    /** The parts left over, by kind: those inside the tin, and those lost out of it. */
    private static final class Tin {
        final int[] inside = new int[KINDS];
        final int[] lost = new int[KINDS];

        void copyFrom(Tin other) {
            System.arraycopy(other.inside, 0, inside, 0, KINDS);
            System.arraycopy(other.lost, 0, lost, 0, KINDS);
        }

        int allInside() {
            int sum = 0;
            for (int kind = 0; kind < KINDS; kind++) {
                sum += inside[kind];
            }
            return sum;
        }

        /** Returns the lowest kind of which a set of steps needs more than there are, or NONE. */
        int kindLacking(Leaflet leaflet, int set) {
            for (int kind = 0; kind < KINDS; kind++) {
                if (inside[kind] < leaflet.needOf(set, kind)) {
                    return kind;
                }
            }
            return NONE;
        }

        void putIn(Leaflet leaflet, int set) {
            for (int kind = 0; kind < KINDS; kind++) {
                inside[kind] += leaflet.needOf(set, kind);
            }
        }

        void takeOut(Leaflet leaflet, int set) {
            for (int kind = 0; kind < KINDS; kind++) {
                inside[kind] -= leaflet.needOf(set, kind);
            }
        }
    }

    /** All that can be undone. Rows behind the counts hold nothing that is told. */
    private static final class Archive {
        final Leaflet[] leaflets = new Leaflet[MOST_LEAFLETS];
        int leafletCount;
        final Cousin[] cousins = new Cousin[MOST_COUSINS];
        int cousinCount;
        final Tin tin = new Tin();
        int buildingsSoFar;
        int skippedSoFar;
        int doneLaterSoFar;
        int takenApartSoFar;

        Archive() {
            for (int k = 0; k < MOST_LEAFLETS; k++) {
                leaflets[k] = new Leaflet();
            }
            for (int k = 0; k < MOST_COUSINS; k++) {
                cousins[k] = new Cousin();
            }
        }

        void copyFrom(Archive other) {
            leafletCount = other.leafletCount;
            for (int k = 0; k < leafletCount; k++) {
                leaflets[k].copyFrom(other.leaflets[k]);
            }
            cousinCount = other.cousinCount;
            for (int k = 0; k < cousinCount; k++) {
                cousins[k].copyFrom(other.cousins[k]);
            }
            tin.copyFrom(other.tin);
            buildingsSoFar = other.buildingsSoFar;
            skippedSoFar = other.skippedSoFar;
            doneLaterSoFar = other.doneLaterSoFar;
            takenApartSoFar = other.takenApartSoFar;
        }

        boolean hasLeaflet(int leaflet) {
            return isWithin(leaflet, 0, leafletCount - 1);
        }

        boolean hasCousin(int cousin) {
            return isWithin(cousin, 0, cousinCount - 1);
        }

        int leafletsOn(int shelf) {
            int set = 0;
            for (int k = 0; k < leafletCount; k++) {
                if (leaflets[k].shelf == shelf) {
                    set |= 1 << k;
                }
            }
            return set;
        }

        boolean isFull(int shelf) {
            return Integer.bitCount(leafletsOn(shelf)) >= SHELF_ROOM;
        }

        int stepsOfAll() {
            int sum = 0;
            for (int k = 0; k < leafletCount; k++) {
                sum += leaflets[k].steps;
            }
            return sum;
        }

        int leafletsBuilt() {
            int sum = 0;
            for (int k = 0; k < leafletCount; k++) {
                sum += leaflets[k].isBuilt() ? 1 : 0;
            }
            return sum;
        }

        int stepsOfBuilt() {
            int sum = 0;
            for (int k = 0; k < leafletCount; k++) {
                sum += leaflets[k].isBuilt() ? leaflets[k].steps : 0;
            }
            return sum;
        }

        int stepsSkipped() {
            int sum = 0;
            for (int k = 0; k < leafletCount; k++) {
                sum += leaflets[k].skippedSteps();
            }
            return sum;
        }

        int leafletsBuiltBy(int cousin) {
            int sum = 0;
            for (int k = 0; k < leafletCount; k++) {
                sum += leaflets[k].builder == cousin ? 1 : 0;
            }
            return sum;
        }

        int stepsSkippedBy(int cousin) {
            int sum = 0;
            for (int k = 0; k < leafletCount; k++) {
                sum += leaflets[k].builder == cousin ? leaflets[k].skippedSteps() : 0;
            }
            return sum;
        }

        int needOfSkipped(int kind) {
            int sum = 0;
            for (int k = 0; k < leafletCount; k++) {
                sum += leaflets[k].needOf(leaflets[k].skipped, kind);
            }
            return sum;
        }
    }

    /** Why something was refused; the number is 0 if nothing was. */
    private static final class Reason {
        int number;
        int detail;
        int command;

        int refuse(int newNumber, int newDetail) {
            number = newNumber;
            detail = newDetail;
            command = 0;
            return REFUSED;
        }
    }

    /**
     * The changes, each of which either is made and answers its number, or is refused, keeps the reason, changes
     * nothing else and answers REFUSED. The tests stand in the order in which the document lists the reasons.
     */
    private static final class Changes {
        final Archive archive = new Archive();
        final Reason kept = new Reason();

        private int refuseNoLeaflet() {
            return kept.refuse(NO_LEAFLET, archive.leafletCount);
        }

        private int refuseNoCousin() {
            return kept.refuse(NO_COUSIN, archive.cousinCount);
        }

        int layLeaflet(int shelf) {
            if (!isShelf(shelf)) {
                return kept.refuse(OUT_OF_RANGE, 0);
            }
            if (archive.leafletCount >= MOST_LEAFLETS) {
                return kept.refuse(AS_MANY_AS_CAN_BE, MOST_LEAFLETS);
            }
            if (archive.isFull(shelf)) {
                return kept.refuse(SHELF_FULL, shelf);
            }
            int leaflet = archive.leafletCount;
            archive.leaflets[leaflet].layOn(shelf);
            archive.leafletCount++;
            return leaflet;
        }

        int addStep(int leaflet, int kind, int parts, int languages, boolean isTwoSided) {
            if (!archive.hasLeaflet(leaflet)) {
                return refuseNoLeaflet();
            }
            if (!isWithin(kind, 0, KINDS - 1) || !isWithin(parts, 1, MOST_PARTS_OF_STEP)
                    || !isWithin(languages, 1, ALL_LANGUAGES)) {
                return kept.refuse(OUT_OF_RANGE, 0);
            }
            Leaflet changed = archive.leaflets[leaflet];
            if (changed.isBuilt()) {
                return kept.refuse(BUILT, changed.builder);
            }
            if (changed.steps >= MOST_STEPS) {
                return kept.refuse(AS_MANY_AS_CAN_BE, MOST_STEPS);
            }
            int step = changed.steps;
            changed.kinds[step] = kind;
            changed.parts[step] = parts;
            changed.languages[step] = languages;
            changed.sides[step] = isTwoSided ? 2 : 1;
            changed.steps++;
            return step;
        }

        int changeFolds(int leaflet, int more) {
            if (!archive.hasLeaflet(leaflet)) {
                return refuseNoLeaflet();
            }
            Leaflet changed = archive.leaflets[leaflet];
            if (changed.isBuilt()) {
                return kept.refuse(BUILT, changed.builder);
            }
            int folds = changed.folds + more;
            if (!isWithin(folds, 0, MOST_FOLDS)) {
                return kept.refuse(AS_MANY_FOLDS, changed.folds);
            }
            changed.folds = folds;
            return changed.open();
        }

        int letCome(int boast, int languages) {
            if (!isWithin(boast, 0, MOST_BOAST) || !isWithin(languages, 0, ALL_LANGUAGES)) {
                return kept.refuse(OUT_OF_RANGE, 0);
            }
            if (archive.cousinCount >= MOST_COUSINS) {
                return kept.refuse(AS_MANY_AS_CAN_BE, MOST_COUSINS);
            }
            int cousin = archive.cousinCount;
            archive.cousins[cousin].boast = boast;
            archive.cousins[cousin].languages = languages;
            archive.cousinCount++;
            return cousin;
        }

        int letLearn(int cousin, int language) {
            if (!archive.hasCousin(cousin)) {
                return refuseNoCousin();
            }
            if (!isWithin(language, 0, LANGUAGES - 1)) {
                return kept.refuse(OUT_OF_RANGE, 0);
            }
            Cousin changed = archive.cousins[cousin];
            if (contains(changed.languages, language)) {
                return kept.refuse(SO_ALREADY, language);
            }
            changed.languages |= 1 << language;
            return Integer.bitCount(changed.languages);
        }

        int letBuild(int cousin, int leaflet) {
            if (!archive.hasCousin(cousin)) {
                return refuseNoCousin();
            }
            if (!archive.hasLeaflet(leaflet)) {
                return refuseNoLeaflet();
            }
            Leaflet changed = archive.leaflets[leaflet];
            if (changed.isBuilt()) {
                return kept.refuse(BUILT, changed.builder);
            }
            Cousin builder = archive.cousins[cousin];
            changed.builder = cousin;
            changed.skipped = changed.stepsSkippedWith(builder.languages, builder.boast, changed.folds);
            archive.tin.putIn(changed, changed.skipped);
            archive.buildingsSoFar++;
            archive.skippedSoFar += changed.skippedSteps();
            return changed.steps - changed.skippedSteps();
        }

        int doLater(int leaflet, int step) {
            if (!archive.hasLeaflet(leaflet)) {
                return refuseNoLeaflet();
            }
            Leaflet changed = archive.leaflets[leaflet];
            if (!changed.isBuilt()) {
                return kept.refuse(NOT_BUILT, 0);
            }
            if (!changed.hasStep(step)) {
                return kept.refuse(NO_STEP, changed.steps);
            }
            if (!changed.isSkipped(step)) {
                return kept.refuse(STEP_DONE, step);
            }
            int lacking = archive.tin.kindLacking(changed, 1 << step);
            if (lacking != NONE) {
                return kept.refuse(TOO_FEW_IN_TIN, lacking);
            }
            archive.tin.takeOut(changed, 1 << step);
            changed.skipped &= ~(1 << step);
            archive.doneLaterSoFar++;
            return changed.skippedSteps();
        }

        int takeApart(int leaflet) {
            if (!archive.hasLeaflet(leaflet)) {
                return refuseNoLeaflet();
            }
            Leaflet changed = archive.leaflets[leaflet];
            if (!changed.isBuilt()) {
                return kept.refuse(NOT_BUILT, 0);
            }
            int lacking = archive.tin.kindLacking(changed, changed.skipped);
            if (lacking != NONE) {
                return kept.refuse(TOO_FEW_IN_TIN, lacking);
            }
            int taken = changed.partsOf(changed.skipped);
            archive.tin.takeOut(changed, changed.skipped);
            changed.builder = NONE;
            changed.skipped = 0;
            archive.takenApartSoFar++;
            return taken;
        }

        int moveBox(int leaflet, int shelf) {
            if (!archive.hasLeaflet(leaflet)) {
                return refuseNoLeaflet();
            }
            if (!isShelf(shelf)) {
                return kept.refuse(OUT_OF_RANGE, 0);
            }
            Leaflet changed = archive.leaflets[leaflet];
            int before = changed.shelf;
            if (before == shelf) {
                return kept.refuse(SO_ALREADY, shelf);
            }
            if (archive.isFull(shelf)) {
                return kept.refuse(SHELF_FULL, shelf);
            }
            changed.shelf = shelf;
            return before;
        }

        int loseParts(int kind, int parts) {
            if (!isWithin(kind, 0, KINDS - 1) || !isWithin(parts, 1, MOST_PARTS_MOVED)) {
                return kept.refuse(OUT_OF_RANGE, 0);
            }
            Tin tin = archive.tin;
            if (tin.inside[kind] < parts) {
                return kept.refuse(TOO_FEW_IN_TIN, kind);
            }
            tin.inside[kind] -= parts;
            tin.lost[kind] += parts;
            return tin.inside[kind];
        }

        int findParts(int kind, int parts) {
            if (!isWithin(kind, 0, KINDS - 1) || !isWithin(parts, 1, MOST_PARTS_MOVED)) {
                return kept.refuse(OUT_OF_RANGE, 0);
            }
            Tin tin = archive.tin;
            if (tin.lost[kind] < parts) {
                return kept.refuse(FEWER_LOST, tin.lost[kind]);
            }
            tin.lost[kind] -= parts;
            tin.inside[kind] += parts;
            return tin.lost[kind];
        }
    }

    /** What there was before the latest changes, in a ring; one row more is for the change that is being made. */
    private static final class History {
        private static final int ROWS = MOST_UNDOS + 1;
        private final Archive[] rows = new Archive[ROWS];
        /** The row of the change that is being made. */
        private int next;
        int count;

        History() {
            for (int k = 0; k < ROWS; k++) {
                rows[k] = new Archive();
            }
        }

        void note(Archive before) {
            rows[next].copyFrom(before);
        }

        void keep() {
            next = (next + 1) % ROWS;
            count = Math.min(count + 1, MOST_UNDOS);
        }

        /** Gives back what was noted and not kept. */
        void takeBack(Archive changed) {
            changed.copyFrom(rows[next]);
        }

        /** Gives back what was kept latest; there must be something. */
        void stepBack(Archive changed) {
            next = (next + ROWS - 1) % ROWS;
            count--;
            changed.copyFrom(rows[next]);
        }

        void forget() {
            count = 0;
        }
    }

    /** A command of a text. */
    private static final class Command {
        char letter;
        final int[] numbers = new int[MOST_NUMBERS];
        private int numberCount;
        int languages;

        void begin(char newLetter) {
            letter = newLetter;
            numberCount = 0;
            languages = 0;
        }

        void addNumber(int number) {
            if (numberCount < MOST_NUMBERS) {
                numbers[numberCount] = number;
                numberCount++;
            }
        }

        /** Adds a language; one of 5 to 9, too, which makes the set one that is out of range. */
        void addLanguage(int language) {
            languages |= 1 << language;
        }
    }

    /** The text buffer, and the commands that were read from it. */
    private static final class Text {
        // In a form "#" stands for a digit, "+" for one to five languages, "?" for none to five, all else for itself.
        private static final String NUMBER_FORM = "#";
        private static final String STEP_FORM = "#:#*#=+";
        private static final String COUSIN_FORM = "#=?";
        private static final String BUILD_FORM = "#>#";
        private static final String LATER_FORM = "#.#";
        private static final String MOVE_FORM = "#@#";
        private static final String PARTS_FORM = "#*#";
        private static final String NO_FORM = "";

        private final char[] characters = new char[TEXT_ROOM];
        int length;
        private int position;
        final Command[] commands = new Command[MOST_COMMANDS];
        int commandCount;
        int fault = NONE;

        Text() {
            for (int k = 0; k < MOST_COMMANDS; k++) {
                commands[k] = new Command();
            }
        }

        boolean isFull() {
            return length >= TEXT_ROOM;
        }

        int add(char character) {
            if (!isFull()) {
                characters[length] = character;
                length++;
            }
            return length;
        }

        void readAndEmpty() {
            position = 0;
            commandCount = 0;
            fault = readCommands() ? NONE : position;
            length = 0;
        }

        /** Reads all commands, and returns whether it could; if the text has a fault, the position stays there. */
        private boolean readCommands() {
            for (int k = 0; k < MOST_COMMANDS; k++) {
                if (!readCommand(commands[k])) {
                    return false;
                }
                commandCount++;
                if (position >= length) {
                    return true;
                }
                if (!readSign(';')) {
                    return false;
                }
            }
            // So many commands fill the buffer, and the text ends behind a ";".
            return false;
        }

        private boolean readCommand(Command command) {
            if (position >= length) {
                return false;
            }
            char letter = characters[position];
            String form = formOf(letter);
            if (form.isEmpty()) {
                return false;
            }
            position++;
            command.begin(letter);
            for (int k = 0; k < form.length(); k++) {
                if (!readPiece(form.charAt(k), command)) {
                    return false;
                }
            }
            return true;
        }

        private static String formOf(char letter) {
            switch (letter) {
                case 'l':
                case 'f':
                case 'u':
                case 't':
                    return NUMBER_FORM;
                case 's':
                case 'S':
                    return STEP_FORM;
                case 'c':
                    return COUSIN_FORM;
                case 'b':
                    return BUILD_FORM;
                case 'd':
                    return LATER_FORM;
                case 'm':
                    return MOVE_FORM;
                case 'x':
                case 'y':
                    return PARTS_FORM;
                default:
                    return NO_FORM;
            }
        }

        private boolean readPiece(char piece, Command command) {
            switch (piece) {
                case '#':
                    return readNumber(command);
                case '+':
                    return readLanguages(command) > 0;
                case '?':
                    return readLanguages(command) >= 0;
                default:
                    return readSign(piece);
            }
        }

        private boolean readSign(char sign) {
            if (position >= length || characters[position] != sign) {
                return false;
            }
            position++;
            return true;
        }

        private boolean readNumber(Command command) {
            if (!isDigitNext()) {
                return false;
            }
            command.addNumber(characters[position] - '0');
            position++;
            return true;
        }

        /** Reads the languages of which the digits follow, and returns how many digits. */
        private int readLanguages(Command command) {
            int digits = 0;
            while (digits < MOST_LANGUAGE_DIGITS && isDigitNext()) {
                command.addLanguage(characters[position] - '0');
                position++;
                digits++;
            }
            return digits;
        }

        private boolean isDigitNext() {
            return position < length && characters[position] >= '0' && characters[position] <= '9';
        }
    }

    /** The line that was written latest. */
    private static final class Line {
        final char[] characters = new char[LINE_ROOM];
        int length;

        void write(Leaflet leaflet) {
            length = 0;
            int open = leaflet.open();
            for (int step = 0; step < leaflet.steps; step++) {
                if (step > 0) {
                    put(' ');
                }
                writeStep(leaflet, step);
                if (step == open - 1 && open < leaflet.steps) {
                    put('/');
                }
            }
        }

        private void writeStep(Leaflet leaflet, int step) {
            put((char) ('0' + leaflet.kinds[step]));
            put('*');
            put((char) ('0' + leaflet.parts[step]));
            if (leaflet.sides[step] == 2) {
                put('+');
            }
            if (leaflet.isSkipped(step)) {
                put('?');
            }
        }

        private void put(char character) {
            if (length < LINE_ROOM) {
                characters[length] = character;
                length++;
            }
        }
    }
}
