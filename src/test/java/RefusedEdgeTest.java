import java.lang.reflect.InvocationTargetException;
import java.lang.reflect.Method;
import java.util.ArrayList;
import java.util.List;

/**
 * Section 6 and each promise's "Throws": numbers just inside and just outside of their ranges, which exception is first
 * where several apply, exceptions ahead of errors, and that refused calls and mere questions change nothing.
 */
final class RefusedEdgeTest {
    private static final String ILLEGAL = "IllegalArgumentException";
    private static final String OUTSIDE = "IndexOutOfBoundsException";

    // Each method with its arguments (u tune, s step, t tooth, n note, i any number, b boolean, or a range), and with
    // the exceptions in the order in which the document names them.
    private static final String[] METHODS = {
        "size 0..13 = I", "tooth t 0..7 = O I", "note n 0..3 = O I", "hasPin u s t = I O", "pinStep u t i = I O",
        "chord u s = I", "fullest u = I", "conflicts u = I", "conflict u i 0..3 = I", "collision i 0..5 = I",
        "missing u = I", "extra u = I", "isClean u = I", "tries u = I", "canLay u = I", "laidOn n = O", "spare u = I",
        "fastest u = I", "needed u = I", "wanted u = I", "bestTurn u = I", "uses u 0..23 = I", "mostUsed u = I",
        "crowd u 0..23 1..64 = I", "silence u = I", "heard i 0..3 = I", "ringsIn 1..200 = I", "buzzesIn 1..200 = I",
        "addNote u s 0..23 = I", "dropNote n = O", "addTooth 0..23 1..12 = I", "setRest t 1..12 = O I",
        "retune t 0..23 = O I", "setPin u s t b = I O", "clear u = I", "lay u = I", "transpose u -23..23 = I",
        "turn u s = I", "reverse u = I", "setSpeed 1..4 = I", "setGap 0..3 = I", "shift u = I", "run 1..200 = I",
        "wear t = O", "writeTooth u t = I O", "writeStep u s = I", "saveSnapshot 0..1 = I", "restoreSnapshot 0..1 = I"};

    // Questions, also such as are answered by NONE, and calls that are refused without an exception.
    private static final String[] QUESTIONS = {
        "append 0", "loadError", "loadStatement", "size 12", "tooth 1 7", "note 2 3", "hasPin 0 1 0", "pinStep 0 0 5",
        "chord 0 1", "fullest 1", "conflicts 0", "conflict 0 0 3", "conflict 0 9 3", "collision 0 0", "collision 9 0",
        "missing 1", "extra 0", "isClean 0", "tries 0", "canLay 0", "laidOn 0", "spare 0", "fastest 0", "needed 0",
        "wanted 0", "wanted 1", "bestTurn 0", "uses 0 2", "mostUsed 0", "crowd 0 0 64", "silence 0", "heard 0 0",
        "heard 9 0", "ringsIn 200", "buzzesIn 200", "firstBuzz", "nextTooth", "bestTune", "wear 0", "purity",
        "outputByte 0", "outputByte 99", "restoreSnapshot 1"};

    public static void main(String[] args) throws IllegalAccessException {
        exceptions(RefusedEdgeTest::smallest, 8, 1, 0, 0);
        exceptions(Whole::rich, 8, 2, 2, 4);
        exceptions(RefusedEdgeTest::largest, 64, 3, 12, 52);
        exceptionsChangeNothing();
        questionsChangeNothing();
        exceptionsBeforeErrors();
        errorsChangeNothing();
        rangesOfTheBoxAsItIs();
        Check.end();
    }

    private static PinBarrel smallest() {
        return new PinBarrel();
    }

    private static PinBarrel largest() {
        return Check.box("barrel 64 3 3" + ";tooth g 0 1".repeat(6) + ";tooth g 1 1".repeat(6)
                + ";note0 0g1".repeat(20) + ";note1 9c0".repeat(20) + ";note2 63b1".repeat(12));
    }

    private static PinBarrel sixtyNotes() {
        PinBarrel x = Check.box("barrel 8 2 0" + ";note0 0c0".repeat(59));
        x.shift(1);
        x.addNote(1, 7, 23);
        return x;
    }

    // ---- exceptions ----

    /** Calls each method with each choice of right and wrong arguments. */
    private static void exceptions(Whole.Maker maker, int steps, int tunes, int teeth, int notes)
            throws IllegalAccessException {
        for (String told : METHODS) {
            String[] parts = told.split(" ");
            int count = List.of(parts).indexOf("=") - 1;
            List<List<Object>> choices = new ArrayList<>();
            for (int i = 1; i <= count; i++) {
                choices.add(choicesFor(parts[i], steps, tunes, teeth, notes));
            }
            Check.sentence("Throws of " + parts[0]);
            allChoices(maker, told, choices, new Object[count], 0, steps, tunes, teeth, notes);
        }
    }

    private static void allChoices(Whole.Maker maker, String told, List<List<Object>> choices, Object[] args, int at,
            int steps, int tunes, int teeth, int notes) throws IllegalAccessException {
        if (at < args.length) {
            for (Object one : choices.get(at)) {
                args[at] = one;
                allChoices(maker, told, choices, args, at + 1, steps, tunes, teeth, notes);
            }
            return;
        }
        String[] parts = told.split(" ");
        boolean illegal = false;
        boolean outside = false;
        for (int i = 0; i < args.length; i++) {
            int[] ends = ends(parts[i + 1], steps, tunes, teeth, notes);
            boolean wrong = args[i] instanceof Integer && ((Integer) args[i] < ends[0] || (Integer) args[i] > ends[1]);
            boolean index = parts[i + 1].equals("t") || parts[i + 1].equals("n");
            illegal |= wrong && !index;
            outside |= wrong && index;
        }
        boolean outsideFirst = parts[args.length + 2].equals("O");
        String want = outside && (outsideFirst || !illegal) ? OUTSIDE : illegal ? ILLEGAL : "";
        String got = answer(maker.make(), parts[0], args);
        Check.same(parts[0] + List.of(args) + " throws", got.startsWith("throws.") ? got.substring(7) : "", want);
    }

    private static List<Object> choicesFor(String kind, int steps, int tunes, int teeth, int notes) {
        if (kind.equals("b")) {
            return List.of(true, false);
        }
        int[] ends = ends(kind, steps, tunes, teeth, notes);
        List<Object> choices = new ArrayList<>(List.of(Integer.MIN_VALUE, Integer.MAX_VALUE));
        if (ends[0] > Integer.MIN_VALUE) {
            choices.addAll(List.of(ends[0] - 1, ends[1] + 1, ends[0], ends[1]));
            // Indexes that a careless shift or cast would take for right ones.
            choices.addAll(List.of(ends[0] + 256, ends[0] + 65536));
        } else {
            choices.addAll(List.of(-1, 0, 5));
        }
        return choices;
    }

    private static int[] ends(String kind, int steps, int tunes, int teeth, int notes) {
        switch (kind) {
            case "u": return new int[] {0, tunes - 1};
            case "s": return new int[] {0, steps - 1};
            case "t": return new int[] {0, teeth - 1};
            case "n": return new int[] {0, notes - 1};
            case "b":
            case "i": return new int[] {Integer.MIN_VALUE, Integer.MAX_VALUE};
            default:
                String[] range = kind.split("\\.\\.");
                return new int[] {Integer.parseInt(range[0]), Integer.parseInt(range[1])};
        }
    }

    private static String answer(PinBarrel x, String name, Object... args) throws IllegalAccessException {
        for (Method m : PinBarrel.class.getDeclaredMethods()) {
            if (m.getName().equals(name) && m.getParameterCount() == args.length) {
                try {
                    return String.valueOf(m.invoke(x, args));
                } catch (InvocationTargetException e) {
                    return "throws." + e.getCause().getClass().getSimpleName();
                }
            }
        }
        throw new IllegalStateException("no method " + name);
    }

    private static void exceptionsChangeNothing() {
        for (String told : METHODS) {
            String[] parts = told.split(" ");
            int count = List.of(parts).indexOf("=") - 1;
            for (int wrong = 0; wrong < count; wrong++) {
                if (!parts[wrong + 1].equals("i") && !parts[wrong + 1].equals("b")) {
                    refusedFor(parts, count, wrong);
                }
            }
        }
    }

    /** With one wrong argument, below or above, and the others right. */
    private static void refusedFor(String[] parts, int count, int wrong) {
        Check.sentence("6: a method that throws an exception changes nothing (" + parts[0] + ")");
        for (int side = 0; side < 2; side++) {
            Object[] args = new Object[count];
            for (int i = 0; i < count; i++) {
                int[] ends = ends(parts[i + 1], 8, 2, 2, 4);
                args[i] = parts[i + 1].equals("b") ? (Object) true : parts[i + 1].equals("i") ? (Object) 0
                        : i != wrong ? (Object) ends[1] : side == 0 ? (Object) (ends[0] - 1) : (Object) (ends[1] + 1);
            }
            Whole.unchanged(parts[0] + List.of(args), Whole::rich, x -> quiet(x, parts[0], args, "throws."));
        }
    }

    private static void quiet(PinBarrel x, String name, Object[] args, String start) {
        try {
            String got = answer(x, name, args);
            if (!got.startsWith(start)) {
                Check.fault(name + List.of(args) + " answered " + got);
            }
        } catch (IllegalAccessException e) {
            Check.fault(name + " cannot be called");
        }
    }

    private static void questionsChangeNothing() {
        for (String told : QUESTIONS) {
            Check.sentence("6: predictions change nothing, nor do questions (" + told + ")");
            String[] parts = told.split(" ");
            Object[] args = new Object[parts.length - 1];
            for (int i = 0; i < args.length; i++) {
                args[i] = parts[0].equals("append") ? (Object) 0L : (Object) Integer.parseInt(parts[i + 1]);
            }
            Whole.unchanged(told, Whole::rich, x -> quiet(x, parts[0], args, ""));
        }
    }

    // ---- errors ----

    private static void exceptionsBeforeErrors() {
        Check.sentence("6: exceptions come before errors");
        PinBarrel full = sixtyNotes();
        for (int tooth = 0; tooth < 12; tooth++) {
            full.addTooth(tooth, 12 - tooth);
        }
        Check.same("60 notes: addNote", full.addNote(0, 0, 0), PinBarrel.FULL);
        Check.illegal("60 notes: addNote of a wrong tune", () -> full.addNote(2, 0, 0));
        Check.illegal("60 notes: addNote of a wrong step", () -> full.addNote(0, 8, 0));
        Check.illegal("60 notes: addNote of a wrong pitch", () -> full.addNote(0, 0, 24));
        Check.same("12 teeth: addTooth", full.addTooth(0, 1), PinBarrel.FULL);
        Check.illegal("12 teeth: addTooth of a wrong pitch", () -> full.addTooth(-1, 1));
        Check.illegal("12 teeth: addTooth of a wrong rest", () -> full.addTooth(0, 0));
        Check.same("12 teeth: wanted", full.wanted(0), PinBarrel.NONE);
        Check.illegal("12 teeth: wanted of a wrong tune", () -> full.wanted(2));
        PinBarrel none = Check.box("barrel 8 1 0;note 0 0 b 1");
        Check.same("a PITCH out of its range: transpose", none.transpose(0, 1), PinBarrel.WRONG);
        Check.illegal("a PITCH out of its range, and by", () -> none.transpose(0, 24));
        Check.illegal("a PITCH out of its range, and tune", () -> none.transpose(1, 1));
        Check.same("no layout: lay", none.lay(0), PinBarrel.WRONG);
        Check.illegal("no layout: lay of a wrong tune", () -> none.lay(1));
        Check.illegal("nothing saved: restoreSnapshot of a wrong slot", () -> none.restoreSnapshot(2));
        Check.same("no such pluck: heard", none.heard(0, 3), PinBarrel.NONE);
        Check.illegal("no such pluck: heard with a wrong what", () -> none.heard(0, 4));
        Check.illegal("no such conflict: conflict with a wrong what", () -> none.conflict(0, 0, 4));
        Check.illegal("no such collision: collision with a wrong what", () -> none.collision(0, 6));
        Check.outside("no such place: pinStep of a wrong tooth", () -> none.pinStep(0, 0, -1));
    }

    private static void errorsChangeNothing() {
        Check.sentence("6: a method that returns FULL changes nothing");
        unchangedBy("addNote", RefusedEdgeTest::sixtyNotes, x -> x.addNote(1, 5, 7), PinBarrel.FULL);
        unchangedBy("addTooth", RefusedEdgeTest::twelveTeeth, x -> x.addTooth(5, 5), PinBarrel.FULL);
        unchangedBy("lay", RefusedEdgeTest::unknownLayout, x -> x.lay(0), PinBarrel.FULL);
        unchangedBy("append", RefusedEdgeTest::fullBuffer, x -> x.append(-1L), PinBarrel.FULL);
        Check.sentence("6: a method that returns WRONG changes nothing");
        unchangedBy("lay", RefusedEdgeTest::noLayout, x -> x.lay(0), PinBarrel.WRONG);
        unchangedBy("transpose up", RefusedEdgeTest::noLayout, x -> x.transpose(0, 22), PinBarrel.WRONG);
        unchangedBy("transpose down", RefusedEdgeTest::noLayout, x -> x.transpose(0, -1), PinBarrel.WRONG);
        Check.sentence("Promise 59: NONE, and nothing changes, if nothing was saved there");
        unchangedBy("restoreSnapshot", Whole::rich, x -> x.restoreSnapshot(1), PinBarrel.NONE);
        Check.sentence("Promise 57: NONE, and nothing changes, if there is none");
        unchangedBy("undo", RefusedEdgeTest::noActions, PinBarrel::undo, PinBarrel.NONE);
    }

    private static void unchangedBy(String name, Whole.Maker maker,
            java.util.function.ToIntFunction<PinBarrel> call, int want) {
        Whole.unchanged(name, maker, x -> Check.same(name, call.applyAsInt(x), want));
    }

    private static PinBarrel twelveTeeth() {
        PinBarrel x = Whole.rich();
        x.restoreSnapshot(0);
        for (int tooth = 2; tooth < 11; tooth++) {
            x.addTooth(tooth, tooth);
        }
        x.saveSnapshot(1);
        x.restoreSnapshot(1);
        x.addTooth(23, 12);
        return x;
    }

    /** Five notes with nine teeth each, and a sixth one without any: 9 + 9*8 + .. tries. */
    private static PinBarrel unknownLayout() {
        PinBarrel x = Check.box("barrel 9 1 0" + ";tooth c 0 5".repeat(9)
                + ";note0 0c0;note0 1c0;note0 2c0;note0 3c0;note0 4c0;note 0 5 d 0;pin 0 7 3");
        x.setGap(1);
        x.setPin(0, 8, 8, true);
        return x;
    }

    private static PinBarrel fullBuffer() {
        PinBarrel x = Whole.rich();
        Check.put(x, " ".repeat(700 - 25 - 7));
        return x;
    }

    private static PinBarrel noLayout() {
        PinBarrel x = Whole.rich();
        x.restoreSnapshot(0);
        x.setRest(0, 5);
        x.setPin(1, 1, 1, true);
        return x;
    }

    private static PinBarrel noActions() {
        PinBarrel x = Whole.rich();
        while (x.size(13) > 0) {
            x.undo();
        }
        return x;
    }

    // ---- ranges that change with the box ----

    private static void rangesOfTheBoxAsItIs() {
        Check.sentence("tune, step, tooth and note are out of range by the box as it is now");
        PinBarrel x = Check.box("barrel 8 1 0");
        Check.outside("no tooth yet", () -> x.wear(0));
        Check.outside("no note yet", () -> x.laidOn(0));
        x.addTooth(0, 1);
        x.addNote(0, 7, 0);
        Check.same("a tooth", x.wear(0), 0.0);
        Check.same("a note", x.laidOn(0), 0);
        Check.outside("one tooth", () -> x.wear(1));
        x.dropNote(0);
        Check.outside("the note is gone", () -> x.laidOn(0));
        x.undo();
        Check.same("the note is back", x.laidOn(0), 0);
        x.undo();
        x.undo();
        Check.outside("the tooth is gone", () -> x.wear(0));
        Check.load(x, "barrel 64 3 0;tooth c 0 1");
        Check.same("the last of each", x.hasPin(2, 63, 0), false);
        x.saveSnapshot(0);
        Check.load(x, "barrel 10 2 0");
        Check.illegal("fewer tunes", () -> x.clear(2));
        Check.illegal("fewer steps", () -> x.chord(0, 10));
        Check.outside("fewer teeth", () -> x.writeTooth(0, 0));
        x.restoreSnapshot(0);
        Check.same("as they were", x.chord(2, 63) + x.clear(2), 0);
        Check.illegal("one tune more", () -> x.clear(3));
        Check.illegal("one step more", () -> x.chord(0, 64));
    }
}
