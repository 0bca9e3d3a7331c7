import java.util.ArrayList;
import java.util.List;
import java.util.NoSuchElementException;
import java.util.regex.Matcher;
import java.util.regex.Pattern;

/**
 * The document once more, told word by word and without care for cost: pins
 * are a list, layouts are sought by recursion, boxes are copied whole.
 */
final class Model {
    private static final int NONE = -1;
    private static final int FULL = -2;
    private static final int WRONG = -3;
    private static final List<String> NAMES =
            List.of("c", "cis", "d", "dis", "e", "f", "fis", "g", "gis", "a", "ais", "b");

    private record Pin(int tune, int step, int tooth) {
    }

    private record Note(int tune, int step, int pitch) {
    }

    private record Pluck(int tick, int tooth, int pitch, int buzz) {
    }

    private static final class Tooth {
        int pitch;
        int rest;
        int plucks = 0;
        int buzzes = 0;
        int last = NONE;

        Tooth(int pitch, int rest) {
            this.pitch = pitch;
            this.rest = rest;
        }

        Tooth copy() {
            Tooth t = new Tooth(pitch, rest);
            t.plucks = plucks;
            t.buzzes = buzzes;
            t.last = last;
            return t;
        }
    }

    private static final class State {
        int steps = 8;
        int tunes = 1;
        int gap = 0;
        int speed = 1;
        List<Tooth> teeth = new ArrayList<>();
        List<Note> notes = new ArrayList<>();
        List<Pin> pins = new ArrayList<>();
        int tune = 0;
        int step = 0;
        int ticks = 0;
        List<Pluck> plucks = new ArrayList<>();

        State copy() {
            State s = new State();
            s.steps = steps;
            s.tunes = tunes;
            s.gap = gap;
            s.speed = speed;
            for (Tooth t : teeth) {
                s.teeth.add(t.copy());
            }
            s.notes.addAll(notes);
            s.pins.addAll(pins);
            s.tune = tune;
            s.step = step;
            s.ticks = ticks;
            s.plucks.addAll(plucks);
            return s;
        }

        int way(int from, int to) {
            for (int n = 1; n <= steps; n++) {
                if ((from + n) % steps == to) {
                    return n;
                }
            }
            throw new NoSuchElementException();
        }

        boolean apartLess(int a, int b, int n) {
            return way(a, b) < n || way(b, a) < n || a == b && n > 0;
        }

        int need(int tooth) {
            return teeth.get(tooth).rest * speed;
        }

        int track(Pin p) {
            return tunes * p.tooth + p.tune;
        }

        boolean collide(Pin a, Pin b) {
            return Math.abs(track(a) - track(b)) == 1 && apartLess(a.step, b.step, gap);
        }

        List<Pin> pinsOf(int tune) {
            List<Pin> found = new ArrayList<>();
            for (Pin p : pins) {
                if (p.tune == tune) {
                    found.add(p);
                }
            }
            return found;
        }

        boolean has(int tune, int step, int tooth) {
            return pins.contains(new Pin(tune, step, tooth));
        }

        Pin next(Pin p) {
            for (int n = 1; n <= steps; n++) {
                Pin q = new Pin(p.tune, (p.step + n) % steps, p.tooth);
                if (pins.contains(q)) {
                    return q;
                }
            }
            throw new NoSuchElementException();
        }

        List<int[]> conflicts(int tune) {
            List<int[]> found = new ArrayList<>();
            for (int tooth = 0; tooth < teeth.size(); tooth++) {
                for (int step = 0; step < steps; step++) {
                    if (has(tune, step, tooth)) {
                        Pin next = next(new Pin(tune, step, tooth));
                        int way = way(step, next.step);
                        if (way < need(tooth)) {
                            found.add(new int[] {tooth, step, next.step, need(tooth) - way});
                        }
                    }
                }
            }
            return found;
        }

        List<Pin[]> collisions() {
            List<Pin[]> found = new ArrayList<>();
            for (Pin a : pins) {
                for (Pin b : pins) {
                    if (track(a) < track(b) && collide(a, b)) {
                        found.add(new Pin[] {a, b});
                    }
                }
            }
            found.sort((x, y) -> {
                int byTrack = track(x[0]) - track(y[0]);
                int byStep = x[0].step - y[0].step;
                return byTrack != 0 ? byTrack : byStep != 0 ? byStep : x[1].step - y[1].step;
            });
            return found;
        }

        /** For each note the tooth that plays it, or NONE. */
        int[] players() {
            int[] players = new int[notes.size()];
            List<Pin> free = new ArrayList<>(pins);
            for (int i = 0; i < players.length; i++) {
                Note n = notes.get(i);
                players[i] = NONE;
                for (int tooth = 0; tooth < teeth.size(); tooth++) {
                    Pin p = new Pin(n.tune, n.step, tooth);
                    if (teeth.get(tooth).pitch == n.pitch && free.remove(p)) {
                        players[i] = tooth;
                        break;
                    }
                }
            }
            return players;
        }

        int tick() {
            int count = 0;
            for (int tooth = 0; tooth < teeth.size(); tooth++) {
                if (has(tune, step, tooth)) {
                    Tooth t = teeth.get(tooth);
                    boolean rings = t.last == NONE || ticks - t.last >= need(tooth);
                    plucks.add(new Pluck(ticks, tooth, t.pitch, rings ? 0 : 1));
                    t.plucks++;
                    t.buzzes += rings ? 0 : 1;
                    t.last = ticks;
                    count++;
                }
            }
            step = (step + 1) % steps;
            ticks++;
            return count;
        }

        int buzzes() {
            int count = 0;
            for (Tooth t : teeth) {
                count += t.buzzes;
            }
            return count;
        }
    }

    /** One seeking of a layout. */
    private static final class Layout {
        final State s;
        final int tune;
        final int without;
        final List<Integer> order = new ArrayList<>();
        final List<Pin> laid = new ArrayList<>();
        int tries = 0;
        boolean unknown = false;
        boolean found;

        Layout(State s, int tune, int without) {
            this.s = s;
            this.tune = tune;
            this.without = without;
            for (int i = 0; i < s.notes.size(); i++) {
                if (s.notes.get(i).tune == tune) {
                    order.add(i);
                }
            }
            order.sort((a, b) -> {
                Note x = s.notes.get(a);
                Note y = s.notes.get(b);
                return x.step != y.step ? x.step - y.step : x.pitch != y.pitch ? x.pitch - y.pitch : a - b;
            });
            found = from(0) && !unknown;
        }

        private boolean from(int at) {
            if (at == order.size()) {
                return true;
            }
            Note n = s.notes.get(order.get(at));
            for (int tooth = 0; tooth < s.teeth.size() && !unknown; tooth++) {
                if (s.teeth.get(tooth).pitch != n.pitch || tooth == without) {
                    continue;
                }
                if (tries == 4000) {
                    unknown = true;
                    return false;
                }
                tries++;
                Pin p = new Pin(tune, n.step, tooth);
                if (fits(p)) {
                    laid.add(p);
                    if (from(at + 1)) {
                        return true;
                    }
                    laid.remove(laid.size() - 1);
                }
            }
            return false;
        }

        private boolean fits(Pin p) {
            int need = s.need(p.tooth);
            if (need > s.steps) {
                return false;
            }
            for (Pin q : laid) {
                if (q.tooth == p.tooth && s.apartLess(p.step, q.step, need) || s.collide(p, q)) {
                    return false;
                }
            }
            for (Pin q : s.pins) {
                if (q.tune != tune && s.collide(p, q)) {
                    return false;
                }
            }
            return true;
        }

        int toothFor(int note) {
            return laid.get(order.indexOf(note)).tooth;
        }
    }

    private State s = new State();
    private String input = "";
    private String output = "";
    private int kind = 0;
    private int statement = NONE;
    private final List<State> past = new ArrayList<>();
    private final State[] snapshots = new State[2];

    int append(long bytes) {
        StringBuilder more = new StringBuilder();
        for (int i = 7; i >= 0; i--) {
            int one = (int) (bytes >> 8 * i) & 255;
            if (one != 0) {
                more.append((char) one);
            }
        }
        if (input.length() + more.length() > 700) {
            return FULL;
        }
        input += more;
        return input.length();
    }

    // ---- descriptions: the text is cut into pieces, which are then read on ----

    private record Piece(String text, int at) {
        boolean isNumber() {
            return !text.isEmpty() && Character.isDigit(text.charAt(0));
        }
    }

    private static final class Fault extends RuntimeException {
        private static final long serialVersionUID = 1L;
        final int kind;
        final int at;

        Fault(int kind, int at) {
            this.kind = kind;
            this.at = at;
        }
    }

    private List<Piece> pieces;
    private int nextPiece;

    private Piece piece() {
        return pieces.get(Math.min(nextPiece, pieces.size() - 1));
    }

    private String word(List<String> words) {
        Piece p = piece();
        if (!words.contains(p.text)) {
            throw new Fault(1, p.at);
        }
        nextPiece++;
        return p.text;
    }

    private int number(int least, int greatest) {
        Piece p = piece();
        if (!p.isNumber()) {
            throw new Fault(1, p.at);
        }
        java.math.BigInteger value = new java.math.BigInteger(p.text);
        if (value.bitLength() > 30 || value.intValue() < least || value.intValue() > greatest) {
            throw new Fault(2, p.at);
        }
        nextPiece++;
        return value.intValue();
    }

    private int pitch() {
        int name = NAMES.indexOf(word(NAMES));
        return 12 * number(0, 1) + name;
    }

    private void readStatement(State t, int index) {
        int start = piece().at;
        if (index == 0) {
            word(List.of("barrel"));
            t.steps = number(8, 64);
            t.tunes = number(1, 3);
            t.gap = number(0, 3);
            return;
        }
        switch (word(List.of("speed", "tooth", "note", "pin"))) {
            case "speed":
                t.speed = number(1, 4);
                break;
            case "tooth":
                if (t.teeth.size() == 12) {
                    throw new Fault(3, start);
                }
                int pitch = pitch();
                t.teeth.add(new Tooth(pitch, number(1, 12)));
                break;
            case "note":
                if (t.notes.size() == 60) {
                    throw new Fault(3, start);
                }
                int tune = number(0, t.tunes - 1);
                int step = number(0, t.steps - 1);
                t.notes.add(new Note(tune, step, pitch()));
                break;
            default:
                int pinTune = number(0, t.tunes - 1);
                int pinStep = number(0, t.steps - 1);
                Pin pin = new Pin(pinTune, pinStep, number(0, t.teeth.size() - 1));
                if (!t.pins.contains(pin)) {
                    t.pins.add(pin);
                }
                break;
        }
    }

    int load() {
        String text = input;
        input = "";
        pieces = new ArrayList<>();
        nextPiece = 0;
        Matcher m = Pattern.compile("[a-z]+|[0-9]+|[^ ]", Pattern.DOTALL).matcher(text);
        while (m.find()) {
            pieces.add(new Piece(m.group(), m.start()));
        }
        pieces.add(new Piece("", text.length()));
        State t = new State();
        int index = 0;
        try {
            readStatement(t, index);
            while (!piece().text.isEmpty()) {
                if (!piece().text.equals(";")) {
                    throw new Fault(1, piece().at);
                }
                nextPiece++;
                index++;
                readStatement(t, index);
            }
        } catch (Fault f) {
            kind = f.kind;
            statement = index;
            return -100 - f.at;
        }
        kind = 0;
        statement = NONE;
        s = t;
        past.clear();
        return s.notes.size();
    }

    int loadError() {
        return kind;
    }

    int loadStatement() {
        return statement;
    }

    // ---- arguments ----

    private static void range(int value, int least, int greatest) {
        if (value < least || value > greatest) {
            throw new IllegalArgumentException();
        }
    }

    private void aTune(int tune) {
        range(tune, 0, s.tunes - 1);
    }

    private void aStep(int step) {
        range(step, 0, s.steps - 1);
    }

    private void aTooth(int tooth) {
        if (tooth < 0 || tooth >= s.teeth.size()) {
            throw new IndexOutOfBoundsException();
        }
    }

    private void aNote(int note) {
        if (note < 0 || note >= s.notes.size()) {
            throw new IndexOutOfBoundsException();
        }
    }

    // ---- questions ----

    int size(int what) {
        range(what, 0, 13);
        return new int[] {s.steps, s.tunes, s.gap, s.speed, s.teeth.size(), s.notes.size(), s.pins.size(), s.tune,
            s.step, s.ticks, s.plucks.size(), s.buzzes(), s.collisions().size(), past.size()}[what];
    }

    int tooth(int tooth, int what) {
        aTooth(tooth);
        range(what, 0, 7);
        Tooth t = s.teeth.get(tooth);
        int pins = 0;
        for (Pin p : s.pins) {
            pins += p.tooth == tooth ? 1 : 0;
        }
        int again = 0;
        while (t.last != NONE && s.ticks + again - t.last < s.need(tooth)) {
            again++;
        }
        return new int[] {t.pitch, t.rest, s.need(tooth), pins, t.plucks, t.buzzes, t.last, again}[what];
    }

    int note(int note, int what) {
        aNote(note);
        range(what, 0, 3);
        Note n = s.notes.get(note);
        return new int[] {n.tune, n.step, n.pitch, s.players()[note]}[what];
    }

    boolean hasPin(int tune, int step, int tooth) {
        aTune(tune);
        aStep(step);
        aTooth(tooth);
        return s.has(tune, step, tooth);
    }

    int pinStep(int tune, int tooth, int index) {
        aTune(tune);
        aTooth(tooth);
        List<Integer> steps = new ArrayList<>();
        for (int step = 0; step < s.steps; step++) {
            if (s.has(tune, step, tooth)) {
                steps.add(step);
            }
        }
        return index < 0 || index >= steps.size() ? NONE : steps.get(index);
    }

    int chord(int tune, int step) {
        aTune(tune);
        aStep(step);
        int sum = 0;
        for (Pin p : s.pinsOf(tune)) {
            sum += p.step == step ? 1 << p.tooth : 0;
        }
        return sum;
    }

    int fullest(int tune) {
        aTune(tune);
        int[] count = new int[s.steps];
        for (Pin p : s.pinsOf(tune)) {
            count[p.step]++;
        }
        int best = NONE;
        for (int step = s.steps - 1; step >= 0; step--) {
            if (count[step] > 0 && (best == NONE || count[step] >= count[best])) {
                best = step;
            }
        }
        return best;
    }

    int conflicts(int tune) {
        aTune(tune);
        return s.conflicts(tune).size();
    }

    int conflict(int tune, int index, int what) {
        aTune(tune);
        range(what, 0, 3);
        List<int[]> all = s.conflicts(tune);
        return index < 0 || index >= all.size() ? NONE : all.get(index)[what];
    }

    int collision(int index, int what) {
        range(what, 0, 5);
        List<Pin[]> all = s.collisions();
        if (index < 0 || index >= all.size()) {
            return NONE;
        }
        Pin a = all.get(index)[0];
        Pin b = all.get(index)[1];
        return new int[] {a.tune, a.tooth, a.step, b.tune, b.tooth, b.step}[what];
    }

    private int played(int tune) {
        int[] players = s.players();
        int count = 0;
        for (int i = 0; i < players.length; i++) {
            count += s.notes.get(i).tune == tune && players[i] != NONE ? 1 : 0;
        }
        return count;
    }

    private int notesOf(int tune) {
        int count = 0;
        for (Note n : s.notes) {
            count += n.tune == tune ? 1 : 0;
        }
        return count;
    }

    int missing(int tune) {
        aTune(tune);
        return notesOf(tune) - played(tune);
    }

    int extra(int tune) {
        aTune(tune);
        return s.pinsOf(tune).size() - played(tune);
    }

    boolean isClean(int tune) {
        aTune(tune);
        for (Pin[] pair : s.collisions()) {
            if (pair[0].tune == tune || pair[1].tune == tune) {
                return false;
            }
        }
        return missing(tune) == 0 && extra(tune) == 0 && conflicts(tune) == 0;
    }

    int tries(int tune) {
        aTune(tune);
        Layout l = new Layout(s, tune, NONE);
        return l.unknown ? FULL : l.tries;
    }

    int canLay(int tune) {
        aTune(tune);
        Layout l = new Layout(s, tune, NONE);
        return l.unknown ? FULL : l.found ? 1 : 0;
    }

    int laidOn(int note) {
        aNote(note);
        Layout l = new Layout(s, s.notes.get(note).tune, NONE);
        return l.found ? l.toothFor(note) : NONE;
    }

    int spare(int tune) {
        aTune(tune);
        Layout l = new Layout(s, tune, NONE);
        if (!l.found) {
            return NONE;
        }
        int sum = 0;
        for (int tooth = 0; tooth < s.teeth.size(); tooth++) {
            boolean free = true;
            for (Pin p : l.laid) {
                free &= p.tooth != tooth;
            }
            sum += free ? 1 << tooth : 0;
        }
        return sum;
    }

    int fastest(int tune) {
        aTune(tune);
        int best = NONE;
        for (int speed = 1; speed <= 4; speed++) {
            State t = s.copy();
            t.speed = speed;
            if (new Layout(t, tune, NONE).found) {
                best = speed;
            }
        }
        return best;
    }

    int needed(int tune) {
        aTune(tune);
        if (!new Layout(s, tune, NONE).found) {
            return NONE;
        }
        for (int tooth = 0; tooth < s.teeth.size(); tooth++) {
            if (!new Layout(s, tune, tooth).found) {
                return tooth;
            }
        }
        return NONE;
    }

    int wanted(int tune) {
        aTune(tune);
        for (int pitch = 0; pitch < 24 && s.teeth.size() < 12; pitch++) {
            State t = s.copy();
            t.teeth.add(new Tooth(pitch, 1));
            if (new Layout(t, tune, NONE).found) {
                return pitch;
            }
        }
        return NONE;
    }

    int bestTurn(int tune) {
        aTune(tune);
        int best = 0;
        int fewest = Integer.MAX_VALUE;
        for (int by = 0; by < s.steps; by++) {
            State t = s.copy();
            movePins(t, tune, by);
            int count = t.collisions().size();
            if (count < fewest) {
                fewest = count;
                best = by;
            }
        }
        return best;
    }

    private static void movePins(State t, int tune, int by) {
        t.pins.replaceAll(p -> p.tune == tune ? new Pin(tune, (p.step + by) % t.steps, p.tooth) : p);
    }

    int uses(int tune, int pitch) {
        aTune(tune);
        range(pitch, 0, 23);
        int count = 0;
        for (Note n : s.notes) {
            count += n.tune == tune && n.pitch == pitch ? 1 : 0;
        }
        return count;
    }

    int mostUsed(int tune) {
        aTune(tune);
        int best = NONE;
        for (int pitch = 23; pitch >= 0; pitch--) {
            if (uses(tune, pitch) > 0 && (best == NONE || uses(tune, pitch) >= uses(tune, best))) {
                best = pitch;
            }
        }
        return best;
    }

    int crowd(int tune, int pitch, int steps) {
        aTune(tune);
        range(pitch, 0, 23);
        range(steps, 1, 64);
        int most = 0;
        for (int first = 0; first < s.steps; first++) {
            int count = 0;
            for (int i = 0; i < Math.min(steps, s.steps); i++) {
                for (Note n : s.notes) {
                    count += n.tune == tune && n.pitch == pitch && n.step == (first + i) % s.steps ? 1 : 0;
                }
            }
            most = Math.max(most, count);
        }
        return most;
    }

    int silence(int tune) {
        aTune(tune);
        int longest = NONE;
        for (Pin p : s.pinsOf(tune)) {
            int shortest = s.steps;
            for (Pin q : s.pinsOf(tune)) {
                shortest = Math.min(shortest, s.way(p.step, q.step));
            }
            longest = Math.max(longest, shortest);
        }
        return longest;
    }

    int heard(int index, int what) {
        range(what, 0, 3);
        if (index < 0 || index >= s.plucks.size() || index < s.plucks.size() - 100) {
            return NONE;
        }
        Pluck p = s.plucks.get(index);
        return new int[] {p.tick, p.tooth, p.pitch, p.buzz}[what];
    }

    int ringsIn(int ticks) {
        range(ticks, 1, 200);
        State t = s.copy();
        for (int i = 0; i < ticks; i++) {
            t.tick();
        }
        return t.plucks.size() - s.plucks.size() - buzzesIn(ticks);
    }

    int buzzesIn(int ticks) {
        range(ticks, 1, 200);
        State t = s.copy();
        for (int i = 0; i < ticks; i++) {
            t.tick();
        }
        return t.buzzes() - s.buzzes();
    }

    int firstBuzz() {
        for (int tick = 0; tick < 3 * s.steps; tick++) {
            State t = s.copy();
            for (int i = 0; i <= tick; i++) {
                t.tick();
            }
            if (t.buzzes() > s.buzzes()) {
                return tick;
            }
        }
        return NONE;
    }

    int nextTooth() {
        State t = s.copy();
        for (int i = 0; i < s.steps; i++) {
            if (t.tick() > 0) {
                return t.plucks.get(s.plucks.size()).tooth;
            }
        }
        return NONE;
    }

    int bestTune() {
        int best = NONE;
        int fewest = Integer.MAX_VALUE;
        for (int tune = 0; tune < s.tunes; tune++) {
            State t = s.copy();
            t.tune = tune;
            for (int i = 0; i < s.steps; i++) {
                t.tick();
            }
            if (t.buzzes() < fewest) {
                fewest = t.buzzes();
                best = tune;
            }
        }
        return best;
    }

    // ---- actions ----

    private void act() {
        past.add(s.copy());
        if (past.size() > 8) {
            past.remove(0);
        }
    }

    int addNote(int tune, int step, int pitch) {
        aTune(tune);
        aStep(step);
        range(pitch, 0, 23);
        if (s.notes.size() == 60) {
            return FULL;
        }
        act();
        s.notes.add(new Note(tune, step, pitch));
        return s.notes.size() - 1;
    }

    int dropNote(int note) {
        aNote(note);
        act();
        s.notes.remove(note);
        return s.notes.size();
    }

    int addTooth(int pitch, int rest) {
        range(pitch, 0, 23);
        range(rest, 1, 12);
        if (s.teeth.size() == 12) {
            return FULL;
        }
        act();
        s.teeth.add(new Tooth(pitch, rest));
        return s.teeth.size() - 1;
    }

    int setRest(int tooth, int rest) {
        aTooth(tooth);
        range(rest, 1, 12);
        act();
        int before = s.teeth.get(tooth).rest;
        s.teeth.get(tooth).rest = rest;
        return before;
    }

    int retune(int tooth, int pitch) {
        aTooth(tooth);
        range(pitch, 0, 23);
        act();
        int before = s.teeth.get(tooth).pitch;
        s.teeth.get(tooth).pitch = pitch;
        return before;
    }

    boolean setPin(int tune, int step, int tooth, boolean on) {
        aTune(tune);
        aStep(step);
        aTooth(tooth);
        act();
        boolean before = s.pins.remove(new Pin(tune, step, tooth));
        if (on) {
            s.pins.add(new Pin(tune, step, tooth));
        }
        return before;
    }

    int clear(int tune) {
        aTune(tune);
        act();
        int before = s.pinsOf(tune).size();
        s.pins.removeIf(p -> p.tune == tune);
        return before;
    }

    int lay(int tune) {
        aTune(tune);
        Layout l = new Layout(s, tune, NONE);
        if (!l.found) {
            return l.unknown ? FULL : WRONG;
        }
        act();
        s.pins.removeIf(p -> p.tune == tune);
        s.pins.addAll(l.laid);
        return l.laid.size();
    }

    int transpose(int tune, int by) {
        aTune(tune);
        range(by, -23, 23);
        for (Note n : s.notes) {
            if (n.tune == tune && (n.pitch + by < 0 || n.pitch + by > 23)) {
                return WRONG;
            }
        }
        act();
        s.notes.replaceAll(n -> n.tune == tune ? new Note(tune, n.step, n.pitch + by) : n);
        return notesOf(tune);
    }

    int turn(int tune, int steps) {
        aTune(tune);
        aStep(steps);
        act();
        movePins(s, tune, steps);
        s.notes.replaceAll(n -> n.tune == tune ? new Note(tune, (n.step + steps) % s.steps, n.pitch) : n);
        return s.pinsOf(tune).size();
    }

    int reverse(int tune) {
        aTune(tune);
        act();
        s.pins.replaceAll(p -> p.tune == tune ? new Pin(tune, s.steps - 1 - p.step, p.tooth) : p);
        s.notes.replaceAll(n -> n.tune == tune ? new Note(tune, s.steps - 1 - n.step, n.pitch) : n);
        return s.pinsOf(tune).size();
    }

    int setSpeed(int speed) {
        range(speed, 1, 4);
        act();
        int before = s.speed;
        s.speed = speed;
        return before;
    }

    int setGap(int gap) {
        range(gap, 0, 3);
        act();
        int before = s.gap;
        s.gap = gap;
        return before;
    }

    int shift(int tune) {
        aTune(tune);
        act();
        int before = s.tune;
        s.tune = tune;
        return before;
    }

    int run(int ticks) {
        range(ticks, 1, 200);
        if (s.ticks + ticks > 100000) {
            return FULL;
        }
        act();
        int count = 0;
        for (int i = 0; i < ticks; i++) {
            count += s.tick();
        }
        return count;
    }

    // ---- shares, output, past ----

    double wear(int tooth) {
        aTooth(tooth);
        return size(6) == 0 ? 0.0 : (double) tooth(tooth, 3) / (double) size(6);
    }

    float purity() {
        return size(10) == 0 ? 1.0f : (float) (size(10) - size(11)) / (float) size(10);
    }

    private static String name(int pitch) {
        return NAMES.get(pitch % 12) + pitch / 12;
    }

    int writeTooth(int tune, int tooth) {
        aTune(tune);
        aTooth(tooth);
        output = name(s.teeth.get(tooth).pitch) + ":";
        for (int step = 0; step < s.steps; step++) {
            output += s.has(tune, step, tooth) ? "o" : ".";
        }
        return output.length();
    }

    int writeStep(int tune, int step) {
        aTune(tune);
        aStep(step);
        List<Integer> pitches = new ArrayList<>();
        for (Note n : s.notes) {
            if (n.tune == tune && n.step == step) {
                pitches.add(n.pitch);
            }
        }
        pitches.sort(null);
        List<String> names = new ArrayList<>();
        for (int p : pitches) {
            names.add(name(p));
        }
        output = String.join("+", names);
        return output.length();
    }

    int outputByte(int index) {
        return index < 0 || index >= output.length() ? NONE : output.charAt(index);
    }

    int undo() {
        if (past.isEmpty()) {
            return NONE;
        }
        s = past.remove(past.size() - 1);
        return past.size();
    }

    int saveSnapshot(int slot) {
        range(slot, 0, 1);
        snapshots[slot] = s.copy();
        return s.pins.size();
    }

    int restoreSnapshot(int slot) {
        range(slot, 0, 1);
        if (snapshots[slot] == null) {
            return NONE;
        }
        s = snapshots[slot].copy();
        past.clear();
        return s.pins.size();
    }
}
