import java.util.Arrays;

/**
 * The barrel of a music box: pins that pluck teeth, tunes of notes beside one
 * another, layouts that are sought for them, and the box as it plays.
 */
public final class PinBarrel {
    public static final int NONE = -1;
    public static final int FULL = -2;
    public static final int WRONG = -3;

    private static final int LEAST_STEPS = 8;
    private static final int MAX_STEPS = 64;
    private static final int MAX_TUNES = 3;
    private static final int MAX_GAP = 3;
    private static final int MAX_SPEED = 4;
    private static final int MAX_TEETH = 12;
    private static final int MAX_TRACKS = MAX_TUNES * MAX_TEETH;
    private static final int MAX_REST = 12;
    private static final int NAMES = 12;
    private static final int PITCHES = 24;
    private static final int MAX_NOTES = 60;
    private static final int MAX_INPUT = 700;
    private static final int MAX_OUTPUT = 400;
    private static final int MAX_TRIES = 4000;
    private static final int MAX_TICKS = 100000;
    private static final int MAX_RUN = 200;
    private static final int KEPT_PLUCKS = 100;
    private static final int PLUCK_FACTS = 4;
    private static final int KEPT_ACTIONS = 8;
    private static final int SLOTS = 2;
    private static final int ERROR_BASE = -100;

    private final Box box = new Box();
    // A second box for what is only thought through: descriptions that may
    // turn out to be wrong, predictions, and boxes with one thing changed.
    private final Box draft = new Box();
    private final History history = new History();
    private final Box[] snapshots = new Box[SLOTS];
    private final boolean[] saved = new boolean[SLOTS];
    private final Reader reader = new Reader();
    private final Writer writer = new Writer();
    private final Search search = new Search();
    private int errorKind = 0;
    private int errorStatement = NONE;

    public PinBarrel() {
        for (int slot = 0; slot < SLOTS; slot++) {
            snapshots[slot] = new Box();
        }
    }

    // ---- descriptions ----

    public int append(long bytes) {
        return reader.take(bytes) ? reader.length : FULL;
    }

    public int load() {
        boolean right = reader.readInto(draft);
        reader.length = 0;
        errorKind = reader.errorKind;
        if (!right) {
            errorStatement = reader.statement;
            return ERROR_BASE - reader.errorPlace;
        }
        errorStatement = NONE;
        box.copyFrom(draft);
        history.forget();
        return box.notes.count;
    }

    public int loadError() {
        return errorKind;
    }

    public int loadStatement() {
        return errorStatement;
    }

    // ---- what there is ----

    public int size(int what) throws IllegalArgumentException {
        switch (what) {
            case 0: return box.steps;
            case 1: return box.tunes;
            case 2: return box.gap;
            case 3: return box.speed;
            case 4: return box.teeth;
            case 5: return box.notes.count;
            case 6: return box.allPins();
            case 7: return box.play.tune;
            case 8: return box.play.step;
            case 9: return box.play.ticks;
            case 10: return box.play.plucks;
            case 11: return box.play.buzzes;
            case 12: return box.allCollisions();
            case 13: return history.count;
            default: throw new IllegalArgumentException("what is out of range");
        }
    }

    public int tooth(int tooth, int what) throws IndexOutOfBoundsException, IllegalArgumentException {
        checkTooth(tooth);
        switch (what) {
            case 0: return box.pitch[tooth];
            case 1: return box.rest[tooth];
            case 2: return box.need(tooth);
            case 3: return box.pinsOfTooth(tooth);
            case 4: return box.play.toothPlucks[tooth];
            case 5: return box.play.toothBuzzes[tooth];
            case 6: return box.play.lastPluck[tooth];
            case 7: return box.play.restLeft(tooth, box.need(tooth));
            default: throw new IllegalArgumentException("what is out of range");
        }
    }

    public int note(int note, int what) throws IndexOutOfBoundsException, IllegalArgumentException {
        checkNote(note);
        switch (what) {
            case 0: return box.notes.tune[note];
            case 1: return box.notes.step[note];
            case 2: return box.notes.pitch[note];
            case 3: return box.playerOf(note);
            default: throw new IllegalArgumentException("what is out of range");
        }
    }

    public boolean hasPin(int tune, int step, int tooth)
            throws IllegalArgumentException, IndexOutOfBoundsException {
        checkTune(tune);
        checkStep(step);
        checkTooth(tooth);
        return box.isPinned(tune, step, tooth);
    }

    public int pinStep(int tune, int tooth, int index)
            throws IllegalArgumentException, IndexOutOfBoundsException {
        checkTune(tune);
        checkTooth(tooth);
        return Ring.member(box.pinsOn(box.trackOf(tune, tooth)), index, box.steps);
    }

    public int chord(int tune, int step) throws IllegalArgumentException {
        checkTune(tune);
        checkStep(step);
        return box.teethAt(tune, step);
    }

    public int fullest(int tune) throws IllegalArgumentException {
        checkTune(tune);
        int best = NONE;
        int most = 0;
        for (int step = 0; step < box.steps; step++) {
            int pins = Integer.bitCount(box.teethAt(tune, step));
            if (pins > most) {
                most = pins;
                best = step;
            }
        }
        return best;
    }

    // ---- what is wrong with it ----

    public int conflicts(int tune) throws IllegalArgumentException {
        checkTune(tune);
        return box.countConflicts(tune);
    }

    public int conflict(int tune, int index, int what) throws IllegalArgumentException {
        checkTune(tune);
        checkRange(what, 0, 3);
        int place = box.placeOfConflict(tune, index);
        if (place == NONE) {
            return NONE;
        }
        int tooth = place / MAX_STEPS;
        int step = place % MAX_STEPS;
        switch (what) {
            case 0: return tooth;
            case 1: return step;
            case 2: return box.nextPin(tune, tooth, step);
            default: return box.shortBy(tune, tooth, step);
        }
    }

    public int collision(int index, int what) throws IllegalArgumentException {
        checkRange(what, 0, 5);
        int place = box.placeOfCollision(index);
        if (place == NONE) {
            return NONE;
        }
        boolean lower = what < 3;
        int track = place / (MAX_STEPS * MAX_STEPS) + (lower ? 0 : 1);
        switch (lower ? what : what - 3) {
            case 0: return box.tuneOf(track);
            case 1: return box.toothOf(track);
            default: return lower ? place / MAX_STEPS % MAX_STEPS : place % MAX_STEPS;
        }
    }

    public int missing(int tune) throws IllegalArgumentException {
        checkTune(tune);
        return box.notes.countOf(tune) - box.playedNotes(tune);
    }

    public int extra(int tune) throws IllegalArgumentException {
        checkTune(tune);
        return box.pinsOfTune(tune) - box.playedNotes(tune);
    }

    public boolean isClean(int tune) throws IllegalArgumentException {
        checkTune(tune);
        int played = box.playedNotes(tune);
        return box.notes.countOf(tune) == played
                && box.pinsOfTune(tune) == played
                && box.countConflicts(tune) == 0
                && !box.hasCollisionOf(tune);
    }

    // ---- layouts ----

    public int tries(int tune) throws IllegalArgumentException {
        checkTune(tune);
        search.seek(box, tune, NONE);
        return search.outcome == FULL ? FULL : search.tried;
    }

    public int canLay(int tune) throws IllegalArgumentException {
        checkTune(tune);
        search.seek(box, tune, NONE);
        return search.outcome;
    }

    public int laidOn(int note) throws IndexOutOfBoundsException {
        checkNote(note);
        search.seek(box, box.notes.tune[note], NONE);
        return search.isFound() ? search.toothFor(note) : NONE;
    }

    public int spare(int tune) throws IllegalArgumentException {
        checkTune(tune);
        search.seek(box, tune, NONE);
        return search.isFound() ? (1 << box.teeth) - 1 - search.teethUsed() : NONE;
    }

    public int fastest(int tune) throws IllegalArgumentException {
        checkTune(tune);
        draft.copyFrom(box);
        for (int speed = MAX_SPEED; speed >= 1; speed--) {
            draft.speed = speed;
            search.seek(draft, tune, NONE);
            if (search.isFound()) {
                return speed;
            }
        }
        return NONE;
    }

    public int needed(int tune) throws IllegalArgumentException {
        checkTune(tune);
        search.seek(box, tune, NONE);
        if (!search.isFound()) {
            return NONE;
        }
        // Without a tooth that the layout leaves free the same layout is
        // found, by no more tries; so only the teeth in use are in question.
        int used = search.teethUsed();
        for (int tooth = 0; tooth < box.teeth; tooth++) {
            if ((used >> tooth & 1) != 0) {
                search.seek(box, tune, tooth);
                if (!search.isFound()) {
                    return tooth;
                }
            }
        }
        return NONE;
    }

    public int wanted(int tune) throws IllegalArgumentException {
        checkTune(tune);
        if (box.teeth >= MAX_TEETH) {
            return NONE;
        }
        // A tooth of a PITCH that the tune lacks is never tried, so all of
        // those PITCHes share the answer of the box as it is.
        search.seek(box, tune, NONE);
        boolean found = search.isFound();
        for (int pitch = 0; pitch < PITCHES; pitch++) {
            boolean fits = found;
            if (box.notes.countOfPitch(tune, pitch) > 0) {
                draft.copyFrom(box);
                draft.putTooth(pitch, 1);
                search.seek(draft, tune, NONE);
                fits = search.isFound();
            }
            if (fits) {
                return pitch;
            }
        }
        return NONE;
    }

    public int bestTurn(int tune) throws IllegalArgumentException {
        checkTune(tune);
        draft.copyFrom(box);
        int best = 0;
        int fewest = draft.allCollisions();
        for (int turned = 1; turned < box.steps; turned++) {
            draft.movePins(tune, 1);
            int collisions = draft.allCollisions();
            if (collisions < fewest) {
                fewest = collisions;
                best = turned;
            }
        }
        return best;
    }

    // ---- the notes of a tune ----

    public int uses(int tune, int pitch) throws IllegalArgumentException {
        checkTune(tune);
        checkPitch(pitch);
        return box.notes.countOfPitch(tune, pitch);
    }

    public int mostUsed(int tune) throws IllegalArgumentException {
        checkTune(tune);
        int best = NONE;
        int most = 0;
        for (int pitch = 0; pitch < PITCHES; pitch++) {
            int count = box.notes.countOfPitch(tune, pitch);
            if (count > most) {
                most = count;
                best = pitch;
            }
        }
        return best;
    }

    public int crowd(int tune, int pitch, int steps) throws IllegalArgumentException {
        checkTune(tune);
        checkPitch(pitch);
        checkRange(steps, 1, MAX_STEPS);
        int row = Math.min(steps, box.steps);
        int most = 0;
        for (int first = 0; first < box.steps; first++) {
            most = Math.max(most, box.notesInRow(tune, pitch, first, row));
        }
        return most;
    }

    public int silence(int tune) throws IllegalArgumentException {
        checkTune(tune);
        long played = box.stepsWithPins(tune);
        int longest = NONE;
        for (int step = 0; step < box.steps; step++) {
            if (Ring.holds(played, step)) {
                longest = Math.max(longest, Ring.wayOn(played, step, box.steps));
            }
        }
        return longest;
    }

    // ---- what was heard, and what would be ----

    public int heard(int index, int what) throws IllegalArgumentException {
        checkRange(what, 0, PLUCK_FACTS - 1);
        return box.play.recall(index, what);
    }

    public int ringsIn(int ticks) throws IllegalArgumentException {
        checkRange(ticks, 1, MAX_RUN);
        draft.copyFrom(box);
        draft.pass(ticks);
        return draft.play.rings() - box.play.rings();
    }

    public int buzzesIn(int ticks) throws IllegalArgumentException {
        checkRange(ticks, 1, MAX_RUN);
        draft.copyFrom(box);
        draft.pass(ticks);
        return draft.play.buzzes - box.play.buzzes;
    }

    public int firstBuzz() {
        draft.copyFrom(box);
        for (int tick = 0; tick < 3 * box.steps; tick++) {
            draft.pass(1);
            if (draft.play.buzzes > box.play.buzzes) {
                return tick;
            }
        }
        return NONE;
    }

    public int nextTooth() {
        for (int way = 0; way < box.steps; way++) {
            int step = Ring.wrapped(box.play.step + way, box.steps);
            for (int tooth = 0; tooth < box.teeth; tooth++) {
                if (box.isPinned(box.play.tune, step, tooth)) {
                    return tooth;
                }
            }
        }
        return NONE;
    }

    public int bestTune() {
        int best = 0;
        int fewest = 0;
        for (int tune = 0; tune < box.tunes; tune++) {
            draft.copyFrom(box);
            draft.play.tune = tune;
            draft.pass(box.steps);
            if (tune == 0 || draft.play.buzzes < fewest) {
                fewest = draft.play.buzzes;
                best = tune;
            }
        }
        return best;
    }

    // ---- actions ----

    public int addNote(int tune, int step, int pitch) throws IllegalArgumentException {
        checkTune(tune);
        checkStep(step);
        checkPitch(pitch);
        if (box.notes.count >= MAX_NOTES) {
            return FULL;
        }
        history.keep(box);
        box.notes.put(tune, step, pitch);
        return box.notes.count - 1;
    }

    public int dropNote(int note) throws IndexOutOfBoundsException {
        checkNote(note);
        history.keep(box);
        box.notes.takeAway(note);
        return box.notes.count;
    }

    public int addTooth(int pitch, int rest) throws IllegalArgumentException {
        checkPitch(pitch);
        checkRange(rest, 1, MAX_REST);
        if (box.teeth >= MAX_TEETH) {
            return FULL;
        }
        history.keep(box);
        box.putTooth(pitch, rest);
        return box.teeth - 1;
    }

    public int setRest(int tooth, int rest) throws IndexOutOfBoundsException, IllegalArgumentException {
        checkTooth(tooth);
        checkRange(rest, 1, MAX_REST);
        history.keep(box);
        int before = box.rest[tooth];
        box.rest[tooth] = rest;
        return before;
    }

    public int retune(int tooth, int pitch) throws IndexOutOfBoundsException, IllegalArgumentException {
        checkTooth(tooth);
        checkPitch(pitch);
        history.keep(box);
        int before = box.pitch[tooth];
        box.pitch[tooth] = pitch;
        return before;
    }

    public boolean setPin(int tune, int step, int tooth, boolean on)
            throws IllegalArgumentException, IndexOutOfBoundsException {
        checkTune(tune);
        checkStep(step);
        checkTooth(tooth);
        history.keep(box);
        boolean before = box.isPinned(tune, step, tooth);
        box.pinOrNot(tune, step, tooth, on);
        return before;
    }

    public int clear(int tune) throws IllegalArgumentException {
        checkTune(tune);
        history.keep(box);
        int before = box.pinsOfTune(tune);
        for (int tooth = 0; tooth < box.teeth; tooth++) {
            box.putPinsOn(box.trackOf(tune, tooth), 0L);
        }
        return before;
    }

    public int lay(int tune) throws IllegalArgumentException {
        checkTune(tune);
        search.seek(box, tune, NONE);
        if (search.outcome == FULL) {
            return FULL;
        }
        if (!search.isFound()) {
            return WRONG;
        }
        history.keep(box);
        search.putPins(box);
        return box.pinsOfTune(tune);
    }

    public int transpose(int tune, int by) throws IllegalArgumentException {
        checkTune(tune);
        checkRange(by, 1 - PITCHES, PITCHES - 1);
        if (!box.notes.canRaise(tune, by)) {
            return WRONG;
        }
        history.keep(box);
        box.notes.raise(tune, by);
        return box.notes.countOf(tune);
    }

    public int turn(int tune, int steps) throws IllegalArgumentException {
        checkTune(tune);
        checkStep(steps);
        history.keep(box);
        box.movePins(tune, steps);
        box.notes.move(tune, steps, box.steps);
        return box.pinsOfTune(tune);
    }

    public int reverse(int tune) throws IllegalArgumentException {
        checkTune(tune);
        history.keep(box);
        box.mirrorPins(tune);
        box.notes.mirror(tune, box.steps);
        return box.pinsOfTune(tune);
    }

    public int setSpeed(int speed) throws IllegalArgumentException {
        checkRange(speed, 1, MAX_SPEED);
        history.keep(box);
        int before = box.speed;
        box.speed = speed;
        return before;
    }

    public int setGap(int gap) throws IllegalArgumentException {
        checkRange(gap, 0, MAX_GAP);
        history.keep(box);
        int before = box.gap;
        box.gap = gap;
        return before;
    }

    public int shift(int tune) throws IllegalArgumentException {
        checkTune(tune);
        history.keep(box);
        int before = box.play.tune;
        box.play.tune = tune;
        return before;
    }

    public int run(int ticks) throws IllegalArgumentException {
        checkRange(ticks, 1, MAX_RUN);
        if (box.play.ticks + ticks > MAX_TICKS) {
            return FULL;
        }
        history.keep(box);
        int before = box.play.plucks;
        box.pass(ticks);
        return box.play.plucks - before;
    }

    // ---- shares ----

    public double wear(int tooth) throws IndexOutOfBoundsException {
        checkTooth(tooth);
        int all = box.allPins();
        if (all == 0) {
            return 0.0;
        }
        return (double) box.pinsOfTooth(tooth) / (double) all;
    }

    public float purity() {
        int plucks = box.play.plucks;
        if (plucks == 0) {
            return 1.0f;
        }
        return (float) box.play.rings() / (float) plucks;
    }

    // ---- the output ----

    public int writeTooth(int tune, int tooth) throws IllegalArgumentException, IndexOutOfBoundsException {
        checkTune(tune);
        checkTooth(tooth);
        writer.length = 0;
        writer.putPitch(box.pitch[tooth]);
        writer.put(':');
        for (int step = 0; step < box.steps; step++) {
            writer.put(box.isPinned(tune, step, tooth) ? 'o' : '.');
        }
        return writer.length;
    }

    public int writeStep(int tune, int step) throws IllegalArgumentException {
        checkTune(tune);
        checkStep(step);
        writer.length = 0;
        for (int pitch = 0; pitch < PITCHES; pitch++) {
            int likeOnes = box.notesInRow(tune, pitch, step, 1);
            for (int i = 0; i < likeOnes; i++) {
                if (writer.length > 0) {
                    writer.put('+');
                }
                writer.putPitch(pitch);
            }
        }
        return writer.length;
    }

    public int outputByte(int index) {
        if (index < 0 || index >= writer.length) {
            return NONE;
        }
        return writer.text[index];
    }

    // ---- the past ----

    public int undo() {
        if (history.count == 0) {
            return NONE;
        }
        history.takeBack(box);
        return history.count;
    }

    public int saveSnapshot(int slot) throws IllegalArgumentException {
        checkRange(slot, 0, SLOTS - 1);
        snapshots[slot].copyFrom(box);
        saved[slot] = true;
        return box.allPins();
    }

    public int restoreSnapshot(int slot) throws IllegalArgumentException {
        checkRange(slot, 0, SLOTS - 1);
        if (!saved[slot]) {
            return NONE;
        }
        box.copyFrom(snapshots[slot]);
        history.forget();
        return box.allPins();
    }

    // ---- looking at arguments ----

    private void checkTune(int tune) {
        checkRange(tune, 0, box.tunes - 1);
    }

    private void checkStep(int step) {
        checkRange(step, 0, box.steps - 1);
    }

    private void checkPitch(int pitch) {
        checkRange(pitch, 0, PITCHES - 1);
    }

    private void checkRange(int value, int least, int greatest) {
        if (value < least || value > greatest) {
            throw new IllegalArgumentException("an argument is out of range");
        }
    }

    private void checkTooth(int tooth) {
        if (tooth < 0 || tooth >= box.teeth) {
            throw new IndexOutOfBoundsException("there is no such tooth");
        }
    }

    private void checkNote(int note) {
        if (note < 0 || note >= box.notes.count) {
            throw new IndexOutOfBoundsException("there is no such note");
        }
    }

    /** Sets of steps around the barrel: bit k stands for step k. */
    private static final class Ring {
        static long all(int steps) {
            return steps >= MAX_STEPS ? -1L : (1L << steps) - 1L;
        }

        static int wrapped(int step, int steps) {
            return step >= steps ? step - steps : step;
        }

        static boolean holds(long set, int step) {
            return (set >>> step & 1L) != 0L;
        }

        /** The set moved on around, by less than STEPS. */
        static long moved(long set, int by, int steps) {
            // A shift by 64 would leave a long as it is, so no move is apart.
            if (by <= 0 || by >= steps) {
                return set;
            }
            return (set << by | set >>> steps - by) & all(steps);
        }

        static long mirrored(long set, int steps) {
            long result = 0L;
            for (int step = 0; step < steps; step++) {
                if (holds(set, step)) {
                    result |= 1L << steps - 1 - step;
                }
            }
            return result;
        }

        /** The steps that are less than reach apart from a step. */
        static long near(int step, int reach, int steps) {
            if (reach <= 0) {
                return 0L;
            }
            if (reach >= steps) {
                return all(steps);
            }
            long ahead = moved(all(reach), step, steps);
            return ahead | moved(ahead, steps - reach + 1, steps);
        }

        /** The way from a step to the next one in the set; STEPS without another one. */
        static int wayOn(long set, int step, int steps) {
            for (int way = 1; way < steps; way++) {
                if (holds(set, wrapped(step + way, steps))) {
                    return way;
                }
            }
            return steps;
        }

        /** The step at a place of the set, counted from 0. */
        static int member(long set, int index, int steps) {
            int left = index;
            for (int step = 0; step < steps && left >= 0; step++) {
                if (holds(set, step)) {
                    if (left == 0) {
                        return step;
                    }
                    left--;
                }
            }
            return NONE;
        }

        /** How many pairs of one step of each set are less than gap apart. */
        static int pairs(long lower, long upper, int gap, int steps) {
            int count = 0;
            for (int way = 0; way < gap; way++) {
                count += Long.bitCount(moved(lower, way, steps) & upper);
                if (way > 0) {
                    count += Long.bitCount(moved(upper, way, steps) & lower);
                }
            }
            return count;
        }
    }

    /** The notes of all tunes, by their numbers. */
    private static final class Notes {
        int count = 0;
        final int[] tune = new int[MAX_NOTES];
        final int[] step = new int[MAX_NOTES];
        final int[] pitch = new int[MAX_NOTES];

        void copyFrom(Notes other) {
            count = other.count;
            System.arraycopy(other.tune, 0, tune, 0, count);
            System.arraycopy(other.step, 0, step, 0, count);
            System.arraycopy(other.pitch, 0, pitch, 0, count);
        }

        void put(int itsTune, int itsStep, int itsPitch) {
            if (count < MAX_NOTES) {
                tune[count] = itsTune;
                step[count] = itsStep;
                pitch[count] = itsPitch;
                count++;
            }
        }

        void takeAway(int note) {
            count--;
            for (int i = note; i < count; i++) {
                tune[i] = tune[i + 1];
                step[i] = step[i + 1];
                pitch[i] = pitch[i + 1];
            }
        }

        int countOf(int aTune) {
            int found = 0;
            for (int i = 0; i < count; i++) {
                if (tune[i] == aTune) {
                    found++;
                }
            }
            return found;
        }

        int countOfPitch(int aTune, int aPitch) {
            int found = 0;
            for (int i = 0; i < count; i++) {
                if (tune[i] == aTune && pitch[i] == aPitch) {
                    found++;
                }
            }
            return found;
        }

        /** How many notes with smaller numbers are the same one told again. */
        int likeAhead(int note) {
            int found = 0;
            for (int i = 0; i < note; i++) {
                if (tune[i] == tune[note] && step[i] == step[note] && pitch[i] == pitch[note]) {
                    found++;
                }
            }
            return found;
        }

        boolean canRaise(int aTune, int by) {
            for (int i = 0; i < count; i++) {
                if (tune[i] == aTune && (pitch[i] + by < 0 || pitch[i] + by >= PITCHES)) {
                    return false;
                }
            }
            return true;
        }

        void raise(int aTune, int by) {
            for (int i = 0; i < count; i++) {
                if (tune[i] == aTune) {
                    pitch[i] += by;
                }
            }
        }

        void move(int aTune, int by, int steps) {
            for (int i = 0; i < count; i++) {
                if (tune[i] == aTune) {
                    step[i] = Ring.wrapped(step[i] + by, steps);
                }
            }
        }

        void mirror(int aTune, int steps) {
            for (int i = 0; i < count; i++) {
                if (tune[i] == aTune) {
                    step[i] = steps - 1 - step[i];
                }
            }
        }
    }

    /** Where the barrel is, and what was plucked since load(). */
    private static final class Play {
        int tune = 0;
        int step = 0;
        int ticks = 0;
        int plucks = 0;
        int buzzes = 0;
        final int[] toothPlucks = new int[MAX_TEETH];
        final int[] toothBuzzes = new int[MAX_TEETH];
        final int[] lastPluck = new int[MAX_TEETH];
        // The latest plucks, each one at its number modulo KEPT_PLUCKS.
        final int[] memory = new int[KEPT_PLUCKS * PLUCK_FACTS];

        Play() {
            Arrays.fill(lastPluck, NONE);
        }

        void copyFrom(Play other) {
            tune = other.tune;
            step = other.step;
            ticks = other.ticks;
            plucks = other.plucks;
            buzzes = other.buzzes;
            System.arraycopy(other.toothPlucks, 0, toothPlucks, 0, MAX_TEETH);
            System.arraycopy(other.toothBuzzes, 0, toothBuzzes, 0, MAX_TEETH);
            System.arraycopy(other.lastPluck, 0, lastPluck, 0, MAX_TEETH);
            System.arraycopy(other.memory, 0, memory, 0, KEPT_PLUCKS * PLUCK_FACTS);
        }

        void begin() {
            tune = 0;
            step = 0;
            ticks = 0;
            plucks = 0;
            buzzes = 0;
            for (int tooth = 0; tooth < MAX_TEETH; tooth++) {
                forgetTooth(tooth);
            }
        }

        void forgetTooth(int tooth) {
            toothPlucks[tooth] = 0;
            toothBuzzes[tooth] = 0;
            lastPluck[tooth] = NONE;
        }

        int rings() {
            return plucks - buzzes;
        }

        int restLeft(int tooth, int need) {
            int last = lastPluck[tooth];
            return last == NONE ? 0 : Math.max(0, last + need - ticks);
        }

        void pluck(int tooth, int pitch, int need) {
            int buzz = restLeft(tooth, need) > 0 ? 1 : 0;
            int place = plucks % KEPT_PLUCKS * PLUCK_FACTS;
            memory[place] = ticks;
            memory[place + 1] = tooth;
            memory[place + 2] = pitch;
            memory[place + 3] = buzz;
            plucks++;
            buzzes += buzz;
            toothPlucks[tooth]++;
            toothBuzzes[tooth] += buzz;
            lastPluck[tooth] = ticks;
        }

        int recall(int index, int what) {
            if (index < 0 || index >= plucks || index < plucks - KEPT_PLUCKS) {
                return NONE;
            }
            return memory[index % KEPT_PLUCKS * PLUCK_FACTS + what];
        }
    }

    /** All that snapshots and actions keep: the barrel, its teeth, notes and pins, and the playing. */
    private static final class Box {
        int steps = LEAST_STEPS;
        int tunes = 1;
        int gap = 0;
        int speed = 1;
        int teeth = 0;
        final int[] pitch = new int[MAX_TEETH];
        final int[] rest = new int[MAX_TEETH];
        // For each track the steps of its pins; tracks without a tooth are empty.
        final long[] pins = new long[MAX_TRACKS];
        final Notes notes = new Notes();
        final Play play = new Play();

        void copyFrom(Box other) {
            steps = other.steps;
            tunes = other.tunes;
            gap = other.gap;
            speed = other.speed;
            teeth = other.teeth;
            System.arraycopy(other.pitch, 0, pitch, 0, MAX_TEETH);
            System.arraycopy(other.rest, 0, rest, 0, MAX_TEETH);
            System.arraycopy(other.pins, 0, pins, 0, MAX_TRACKS);
            notes.copyFrom(other.notes);
            play.copyFrom(other.play);
        }

        void begin(int itsSteps, int itsTunes, int itsGap) {
            steps = itsSteps;
            tunes = itsTunes;
            gap = itsGap;
            speed = 1;
            teeth = 0;
            Arrays.fill(pins, 0L);
            notes.count = 0;
            play.begin();
        }

        void putTooth(int itsPitch, int itsRest) {
            if (teeth < MAX_TEETH) {
                pitch[teeth] = itsPitch;
                rest[teeth] = itsRest;
                play.forgetTooth(teeth);
                teeth++;
            }
        }

        int need(int tooth) {
            return rest[tooth] * speed;
        }

        int trackOf(int tune, int tooth) {
            return tunes * tooth + tune;
        }

        int tuneOf(int track) {
            return tunes < 1 ? 0 : track % tunes;
        }

        int toothOf(int track) {
            return tunes < 1 ? 0 : track / tunes;
        }

        /** The pins on a track, none on one beside the barrel. */
        long pinsOn(int track) {
            return track < 0 || track >= MAX_TRACKS ? 0L : pins[track];
        }

        void putPinsOn(int track, long set) {
            if (track >= 0 && track < MAX_TRACKS) {
                pins[track] = set;
            }
        }

        boolean isPinned(int tune, int step, int tooth) {
            return Ring.holds(pinsOn(trackOf(tune, tooth)), step);
        }

        void pinOrNot(int tune, int step, int tooth, boolean on) {
            int track = trackOf(tune, tooth);
            long bit = 1L << step;
            putPinsOn(track, on ? pinsOn(track) | bit : pinsOn(track) & ~bit);
        }

        int allPins() {
            int count = 0;
            for (int tune = 0; tune < tunes; tune++) {
                count += pinsOfTune(tune);
            }
            return count;
        }

        int pinsOfTune(int tune) {
            int count = 0;
            for (int tooth = 0; tooth < teeth; tooth++) {
                count += Long.bitCount(pinsOn(trackOf(tune, tooth)));
            }
            return count;
        }

        int pinsOfTooth(int tooth) {
            int count = 0;
            for (int tune = 0; tune < tunes; tune++) {
                count += Long.bitCount(pinsOn(trackOf(tune, tooth)));
            }
            return count;
        }

        long stepsWithPins(int tune) {
            long set = 0L;
            for (int tooth = 0; tooth < teeth; tooth++) {
                set |= pinsOn(trackOf(tune, tooth));
            }
            return set;
        }

        /** The sum of 2^tooth over the teeth with a pin there. */
        int teethAt(int tune, int step) {
            int set = 0;
            for (int tooth = 0; tooth < teeth; tooth++) {
                if (isPinned(tune, step, tooth)) {
                    set |= 1 << tooth;
                }
            }
            return set;
        }

        void movePins(int tune, int by) {
            for (int tooth = 0; tooth < teeth; tooth++) {
                int track = trackOf(tune, tooth);
                putPinsOn(track, Ring.moved(pinsOn(track), by, steps));
            }
        }

        void mirrorPins(int tune) {
            for (int tooth = 0; tooth < teeth; tooth++) {
                int track = trackOf(tune, tooth);
                putPinsOn(track, Ring.mirrored(pinsOn(track), steps));
            }
        }

        int nextPin(int tune, int tooth, int step) {
            int way = Ring.wayOn(pinsOn(trackOf(tune, tooth)), step, steps);
            return Ring.wrapped(step + way, steps);
        }

        /** By how many steps the way from a pin to the next one is too short; 0 without a conflict. */
        int shortBy(int tune, int tooth, int step) {
            long set = pinsOn(trackOf(tune, tooth));
            return Ring.holds(set, step) ? Math.max(0, need(tooth) - Ring.wayOn(set, step, steps)) : 0;
        }

        int countConflicts(int tune) {
            int count = 0;
            for (int tooth = 0; tooth < teeth; tooth++) {
                for (int step = 0; step < steps; step++) {
                    if (shortBy(tune, tooth, step) > 0) {
                        count++;
                    }
                }
            }
            return count;
        }

        /** MAX_STEPS * tooth + step of the first pin of a conflict, or NONE. */
        int placeOfConflict(int tune, int index) {
            int left = index;
            for (int tooth = 0; tooth < teeth && left >= 0; tooth++) {
                for (int step = 0; step < steps; step++) {
                    if (shortBy(tune, tooth, step) > 0) {
                        if (left == 0) {
                            return MAX_STEPS * tooth + step;
                        }
                        left--;
                    }
                }
            }
            return NONE;
        }

        int collisionsAbove(int track) {
            return Ring.pairs(pinsOn(track), pinsOn(track + 1), gap, steps);
        }

        int allCollisions() {
            int count = 0;
            for (int track = 0; track + 1 < tunes * teeth; track++) {
                count += collisionsAbove(track);
            }
            return count;
        }

        boolean hasCollisionOf(int tune) {
            for (int tooth = 0; tooth < teeth; tooth++) {
                int track = trackOf(tune, tooth);
                if (collisionsAbove(track) > 0 || collisionsAbove(track - 1) > 0) {
                    return true;
                }
            }
            return false;
        }

        /** The lower track, its step and the other one's, as digits to the base MAX_STEPS, or NONE. */
        int placeOfCollision(int index) {
            int left = index;
            for (int track = 0; track + 1 < tunes * teeth && left >= 0; track++) {
                int here = collisionsAbove(track);
                if (left < here) {
                    return MAX_STEPS * MAX_STEPS * track + stepsOfCollision(track, left);
                }
                left -= here;
            }
            return NONE;
        }

        private int stepsOfCollision(int track, int index) {
            int left = index;
            for (int step = 0; step < steps; step++) {
                if (Ring.holds(pinsOn(track), step)) {
                    long others = pinsOn(track + 1) & Ring.near(step, gap, steps);
                    int here = Long.bitCount(others);
                    if (left < here) {
                        return MAX_STEPS * step + Ring.member(others, left, steps);
                    }
                    left -= here;
                }
            }
            return 0;
        }

        /** The tooth whose pin plays a note, or NONE. */
        int playerOf(int note) {
            int ahead = notes.likeAhead(note);
            for (int tooth = 0; tooth < teeth; tooth++) {
                if (pitch[tooth] == notes.pitch[note] && isPinned(notes.tune[note], notes.step[note], tooth)) {
                    if (ahead == 0) {
                        return tooth;
                    }
                    ahead--;
                }
            }
            return NONE;
        }

        int playedNotes(int tune) {
            int count = 0;
            for (int note = 0; note < notes.count; note++) {
                if (notes.tune[note] == tune && playerOf(note) != NONE) {
                    count++;
                }
            }
            return count;
        }

        int notesInRow(int tune, int ofPitch, int first, int row) {
            int count = 0;
            for (int note = 0; note < notes.count; note++) {
                int way = notes.step[note] - first;
                int place = way < 0 ? way + steps : way;
                if (notes.tune[note] == tune && notes.pitch[note] == ofPitch && place < row) {
                    count++;
                }
            }
            return count;
        }

        void pass(int ticks) {
            for (int i = 0; i < ticks; i++) {
                for (int tooth = 0; tooth < teeth; tooth++) {
                    if (isPinned(play.tune, play.step, tooth)) {
                        play.pluck(tooth, pitch[tooth], need(tooth));
                    }
                }
                play.step = Ring.wrapped(play.step + 1, steps);
                play.ticks++;
            }
        }
    }

    /** The boxes as they were before the latest actions, in a ring of rows made once. */
    private static final class History {
        final Box[] before = new Box[KEPT_ACTIONS];
        int oldest = 0;
        int count = 0;

        History() {
            for (int i = 0; i < KEPT_ACTIONS; i++) {
                before[i] = new Box();
            }
        }

        void forget() {
            count = 0;
        }

        void keep(Box box) {
            if (count == KEPT_ACTIONS) {
                oldest = (oldest + 1) % KEPT_ACTIONS;
                count--;
            }
            before[(oldest + count) % KEPT_ACTIONS].copyFrom(box);
            count++;
        }

        void takeBack(Box box) {
            if (count > 0) {
                count--;
                box.copyFrom(before[(oldest + count) % KEPT_ACTIONS]);
            }
        }
    }

    /** Seeks the layout of a tune, by going on and back over its notes. */
    private static final class Search {
        private static final int NO = 0;
        private static final int YES = 1;
        // Each round is a try, a step back from a laid note, or the last one.
        private static final int MAX_ROUNDS = 3 * MAX_TRIES;

        // NO, YES, or FULL if it is unknown.
        int outcome = NO;
        int tried = 0;
        private int count = 0;
        private final int[] order = new int[MAX_NOTES];
        private final int[] chosen = new int[MAX_NOTES];
        // The pins of the other tunes, and those that were laid so far.
        private final long[] tracks = new long[MAX_TRACKS];

        boolean isFound() {
            return outcome == YES;
        }

        /** Seeks it with all teeth but one, or with all if that is NONE. */
        void seek(Box box, int tune, int without) {
            prepare(box, tune);
            int at = 0;
            chosen[0] = NONE;
            for (int round = 0; round < MAX_ROUNDS; round++) {
                if (at >= count) {
                    outcome = YES;
                    return;
                }
                int note = order[at];
                int tooth = toothBehind(chosen[at], box, box.notes.pitch[note], without);
                if (tooth == NONE) {
                    if (at == 0) {
                        outcome = NO;
                        return;
                    }
                    at--;
                    lift(box, order[at], chosen[at]);
                } else {
                    if (tried >= MAX_TRIES) {
                        return;
                    }
                    tried++;
                    chosen[at] = tooth;
                    if (fits(box, note, tooth)) {
                        put(box, note, tooth);
                        at++;
                        if (at < count) {
                            chosen[at] = NONE;
                        }
                    }
                }
            }
        }

        private void prepare(Box box, int tune) {
            outcome = FULL;
            tried = 0;
            count = 0;
            System.arraycopy(box.pins, 0, tracks, 0, MAX_TRACKS);
            for (int tooth = 0; tooth < box.teeth; tooth++) {
                putPinsOn(box.trackOf(tune, tooth), 0L);
            }
            for (int note = 0; note < box.notes.count; note++) {
                if (box.notes.tune[note] == tune) {
                    sortIn(box.notes, note);
                }
            }
        }

        private void sortIn(Notes notes, int note) {
            int place = count;
            while (place > 0 && rank(notes, order[place - 1]) > rank(notes, note)) {
                order[place] = order[place - 1];
                place--;
            }
            order[place] = note;
            count++;
        }

        private static int rank(Notes notes, int note) {
            return PITCHES * notes.step[note] + notes.pitch[note];
        }

        private static int toothBehind(int tooth, Box box, int pitch, int without) {
            for (int next = tooth + 1; next < box.teeth; next++) {
                if (box.pitch[next] == pitch && next != without) {
                    return next;
                }
            }
            return NONE;
        }

        private boolean fits(Box box, int note, int tooth) {
            int need = box.need(tooth);
            int step = box.notes.step[note];
            int track = box.trackOf(box.notes.tune[note], tooth);
            if (need > box.steps || (pinsOn(track) & Ring.near(step, need, box.steps)) != 0L) {
                return false;
            }
            long beside = pinsOn(track - 1) | pinsOn(track + 1);
            return (beside & Ring.near(step, box.gap, box.steps)) == 0L;
        }

        private long pinsOn(int track) {
            return track < 0 || track >= MAX_TRACKS ? 0L : tracks[track];
        }

        private void putPinsOn(int track, long set) {
            if (track >= 0 && track < MAX_TRACKS) {
                tracks[track] = set;
            }
        }

        private void put(Box box, int note, int tooth) {
            int track = box.trackOf(box.notes.tune[note], tooth);
            putPinsOn(track, pinsOn(track) | 1L << box.notes.step[note]);
        }

        private void lift(Box box, int note, int tooth) {
            int track = box.trackOf(box.notes.tune[note], tooth);
            putPinsOn(track, pinsOn(track) & ~(1L << box.notes.step[note]));
        }

        int toothFor(int note) {
            for (int at = 0; at < count; at++) {
                if (order[at] == note) {
                    return chosen[at];
                }
            }
            return NONE;
        }

        /** The sum of 2^tooth over the teeth of the layout. */
        int teethUsed() {
            int set = 0;
            for (int at = 0; at < count; at++) {
                set |= 1 << chosen[at];
            }
            return set;
        }

        void putPins(Box box) {
            System.arraycopy(tracks, 0, box.pins, 0, MAX_TRACKS);
        }
    }

    /** The input buffer, and the reading of it as a description. */
    private static final class Reader {
        private static final int MISPLACED = 1;
        private static final int OUT_OF_RANGE = 2;
        private static final int TOO_MANY = 3;
        // Above every range, and small enough to be read on with one more digit.
        private static final int LARGE = 1000;

        final char[] text = new char[MAX_INPUT];
        int length = 0;
        int errorKind = 0;
        int errorPlace = 0;
        int statement = 0;
        private int at = 0;

        /** Appends the bytes of a number that are not 0, if all of them have room. */
        boolean take(long bytes) {
            int more = 0;
            for (int place = 56; place >= 0; place -= 8) {
                if ((bytes >>> place & 255L) != 0L) {
                    more++;
                }
            }
            if (length + more > MAX_INPUT) {
                return false;
            }
            for (int place = 56; place >= 0; place -= 8) {
                int one = (int) (bytes >>> place & 255L);
                if (one != 0 && length < MAX_INPUT) {
                    text[length] = (char) one;
                    length++;
                }
            }
            return true;
        }

        boolean readInto(Box box) {
            at = 0;
            statement = 0;
            errorKind = 0;
            errorPlace = 0;
            if (!readFirst(box)) {
                return false;
            }
            for (int round = 0; round <= length; round++) {
                skipSpaces();
                if (at >= length) {
                    return true;
                }
                if (text[at] != ';') {
                    return fail(MISPLACED, at);
                }
                at++;
                statement++;
                if (!readOther(box)) {
                    return false;
                }
            }
            return true;
        }

        private boolean readFirst(Box box) {
            int start = readWord();
            if (!isWord(start, "barrel")) {
                return fail(MISPLACED, start);
            }
            int steps = readNumber(LEAST_STEPS, MAX_STEPS);
            int tunes = steps == NONE ? NONE : readNumber(1, MAX_TUNES);
            int gap = tunes == NONE ? NONE : readNumber(0, MAX_GAP);
            if (gap == NONE) {
                return false;
            }
            box.begin(steps, tunes, gap);
            return true;
        }

        private boolean readOther(Box box) {
            int start = readWord();
            if (isWord(start, "speed")) {
                return readSpeed(box);
            }
            if (isWord(start, "tooth")) {
                return box.teeth >= MAX_TEETH ? fail(TOO_MANY, start) : readTooth(box);
            }
            if (isWord(start, "note")) {
                return box.notes.count >= MAX_NOTES ? fail(TOO_MANY, start) : readNote(box);
            }
            if (isWord(start, "pin")) {
                return readPin(box);
            }
            return fail(MISPLACED, start);
        }

        private boolean readSpeed(Box box) {
            int speed = readNumber(1, MAX_SPEED);
            if (speed == NONE) {
                return false;
            }
            box.speed = speed;
            return true;
        }

        private boolean readTooth(Box box) {
            int pitch = readPitch();
            int rest = pitch == NONE ? NONE : readNumber(1, MAX_REST);
            if (rest == NONE) {
                return false;
            }
            box.putTooth(pitch, rest);
            return true;
        }

        private boolean readNote(Box box) {
            int tune = readNumber(0, box.tunes - 1);
            int step = tune == NONE ? NONE : readNumber(0, box.steps - 1);
            int pitch = step == NONE ? NONE : readPitch();
            if (pitch == NONE) {
                return false;
            }
            box.notes.put(tune, step, pitch);
            return true;
        }

        private boolean readPin(Box box) {
            int tune = readNumber(0, box.tunes - 1);
            int step = tune == NONE ? NONE : readNumber(0, box.steps - 1);
            int tooth = step == NONE ? NONE : readNumber(0, box.teeth - 1);
            if (tooth == NONE) {
                return false;
            }
            box.pinOrNot(tune, step, tooth, true);
            return true;
        }

        private int readPitch() {
            int start = readWord();
            for (int name = 0; name < NAMES; name++) {
                if (isWord(start, Writer.nameOf(name))) {
                    int octave = readNumber(0, PITCHES / NAMES - 1);
                    return octave == NONE ? NONE : NAMES * octave + name;
                }
            }
            fail(MISPLACED, start);
            return NONE;
        }

        /** Reads a number; notes its error and returns NONE if it is none or out of its range. */
        private int readNumber(int least, int greatest) {
            skipSpaces();
            int start = at;
            int value = 0;
            while (at < length && text[at] >= '0' && text[at] <= '9') {
                value = Math.min(LARGE, 10 * value + text[at] - '0');
                at++;
            }
            if (at == start) {
                fail(MISPLACED, start);
                return NONE;
            }
            if (value < least || value > greatest) {
                fail(OUT_OF_RANGE, start);
                return NONE;
            }
            return value;
        }

        /** Reads a word, also an empty one, up to the present place; returns where it begins. */
        private int readWord() {
            skipSpaces();
            int start = at;
            while (at < length && text[at] >= 'a' && text[at] <= 'z') {
                at++;
            }
            return start;
        }

        private boolean isWord(int start, String word) {
            if (at - start != word.length()) {
                return false;
            }
            for (int i = 0; i < word.length(); i++) {
                if (text[start + i] != word.charAt(i)) {
                    return false;
                }
            }
            return true;
        }

        private void skipSpaces() {
            while (at < length && text[at] == ' ') {
                at++;
            }
        }

        private boolean fail(int kind, int place) {
            errorKind = kind;
            errorPlace = place;
            return false;
        }
    }

    /** The output. */
    private static final class Writer {
        final char[] text = new char[MAX_OUTPUT];
        int length = 0;

        void put(char one) {
            if (length < MAX_OUTPUT) {
                text[length] = one;
                length++;
            }
        }

        void putPitch(int pitch) {
            String name = nameOf(pitch % NAMES);
            for (int i = 0; i < name.length(); i++) {
                put(name.charAt(i));
            }
            put((char) ('0' + pitch / NAMES));
        }

        static String nameOf(int name) {
            switch (name) {
                case 0: return "c";
                case 1: return "cis";
                case 2: return "d";
                case 3: return "dis";
                case 4: return "e";
                case 5: return "f";
                case 6: return "fis";
                case 7: return "g";
                case 8: return "gis";
                case 9: return "a";
                case 10: return "ais";
                default: return "b";
            }
        }
    }
}
