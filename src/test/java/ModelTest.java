import java.lang.reflect.InvocationTargetException;
import java.lang.reflect.Method;
import java.util.ArrayList;
import java.util.HashMap;
import java.util.List;
import java.util.Map;
import java.util.Random;

/** Runs of drawn calls, with the same seeds each time, in which the class and the model must agree. */
final class ModelTest {
    // Each call with the kinds of its arguments: u tune, s step, t tooth,
    // n note, p pitch, i index, h number of a pluck, b boolean, or a range.
    private static final String[] QUESTIONS = {
        "loadError", "loadStatement", "size 0..13", "tooth t 0..7", "note n 0..3", "hasPin u s t", "pinStep u t i",
        "chord u s", "fullest u", "conflicts u", "conflict u i 0..3", "collision i 0..5", "missing u", "extra u",
        "isClean u", "tries u", "canLay u", "laidOn n", "spare u", "fastest u", "needed u", "wanted u", "bestTurn u",
        "uses u p", "mostUsed u", "crowd u p 1..64", "silence u", "heard h 0..3", "heard h 0..3", "ringsIn 1..200",
        "buzzesIn 1..200", "firstBuzz", "nextTooth", "bestTune", "wear t", "purity", "writeTooth u t",
        "writeStep u s", "outputByte i", "saveSnapshot 0..1", "size 12..12", "size 6..6", "size 10..11"};
    private static final String[] ACTIONS = {
        "addNote u s p", "dropNote n", "addTooth p 1..12", "setRest t 1..12", "retune t p", "setPin u s t b",
        "setPin u s t b", "setPin u s t b", "setPin u s t b", "clear u", "lay u", "lay u", "transpose u -23..23",
        "transpose u -2..2", "turn u s", "reverse u", "setSpeed 1..4", "setGap 0..3", "shift u", "run 1..200",
        "run 1..20", "run 1..20", "undo", "undo", "undo"};
    private static final int CALLS_DRAWN = 350;
    // What later calls answer is free.
    private static final int CALLS_PROMISED = 512;
    private static final Map<String, Method> REAL = methods(PinBarrel.class);
    private static final Map<String, Method> TOLD = methods(Model.class);

    private final Random random;
    private final PinBarrel real = new PinBarrel();
    private final Model told = new Model();
    private final List<String> made = new ArrayList<>();
    private String text = "";
    private boolean agree = true;
    private List<Integer> likedPitches = List.of(0);

    private ModelTest(int seed) {
        random = new Random(seed);
    }

    public static void main(String[] args) throws IllegalAccessException {
        int from = args.length > 0 ? Integer.parseInt(args[0]) : 0;
        int to = args.length > 1 ? Integer.parseInt(args[1]) : 400;
        for (int seed = from; seed < to; seed++) {
            new ModelTest(seed).oneRun(seed);
        }
        Check.end();
    }

    private static Map<String, Method> methods(Class<?> of) {
        Map<String, Method> found = new HashMap<>();
        for (Method m : of.getDeclaredMethods()) {
            found.put(m.getName() + m.getParameterCount(), m);
        }
        return found;
    }

    private void oneRun(int seed) throws IllegalAccessException {
        describe();
        while (made.size() < CALLS_DRAWN && agree) {
            int kind = random.nextInt(100);
            if (kind < 1) {
                describe();
            } else if (kind < 2) {
                call("restoreSnapshot 0..1");
            } else if (kind < 40) {
                call(ACTIONS[random.nextInt(ACTIONS.length)]);
            } else {
                call(QUESTIONS[random.nextInt(QUESTIONS.length)]);
            }
        }
        if (agree) {
            compareAll();
        }
        if (!agree) {
            Check.fault("seed " + seed + ": " + String.join(" ", made.subList(Math.max(0, made.size() - 12),
                    made.size())));
        }
    }

    private void describe() throws IllegalAccessException {
        draw();
        if (random.nextInt(4) == 0) {
            spoil();
        }
        for (int from = 0; from < text.length(); from += 8) {
            long bytes = 0;
            for (int i = from; i < Math.min(from + 8, text.length()); i++) {
                bytes = bytes << 8 | text.charAt(i);
            }
            both("append", bytes);
        }
        both("load");
        both("loadError");
        both("loadStatement");
    }

    private void draw() {
        int steps = random.nextInt(3) == 0 ? 64 : 8 + random.nextInt(24);
        int tunes = 1 + random.nextInt(3);
        int teeth = random.nextInt(13);
        likedPitches = new ArrayList<>();
        for (int i = 0; i < 1 + random.nextInt(5); i++) {
            likedPitches.add(random.nextInt(24));
        }
        StringBuilder t = new StringBuilder();
        t.append("barrel ").append(steps).append(' ').append(tunes).append(' ').append(random.nextInt(4));
        if (random.nextInt(2) == 0) {
            t.append(";speed ").append(1 + random.nextInt(4));
        }
        int rests = 1 + random.nextInt(12);
        for (int i = 0; i < teeth; i++) {
            t.append(";tooth ").append(name(aPitch())).append(' ').append(1 + random.nextInt(rests));
        }
        int notes = random.nextInt(40);
        int pins = random.nextInt(30);
        for (int i = 0; i < notes && t.length() < 650; i++) {
            t.append(random.nextInt(6) == 0 ? "; note " : ";note").append(random.nextInt(tunes)).append(' ');
            t.append(random.nextInt(steps)).append(name(aPitch()));
        }
        for (int i = 0; i < pins && t.length() < 680 && teeth > 0; i++) {
            t.append(";pin").append(random.nextInt(tunes)).append(' ').append(random.nextInt(steps)).append(' ');
            t.append(random.nextInt(teeth));
        }
        text = t.toString();
    }

    private static String name(int pitch) {
        String[] names = {"c", "cis", "d", "dis", "e", "f", "fis", "g", "gis", "a", "ais", "b"};
        return names[pitch % 12] + " " + pitch / 12;
    }

    private int aPitch() {
        return random.nextInt(20) == 0 ? random.nextInt(24) : likedPitches.get(random.nextInt(likedPitches.size()));
    }

    private void spoil() {
        StringBuilder t = new StringBuilder(text);
        int changes = 1 + random.nextInt(2);
        for (int i = 0; i < changes && t.length() > 1; i++) {
            int at = random.nextInt(t.length());
            switch (random.nextInt(4)) {
                case 0:
                    t.deleteCharAt(at);
                    break;
                case 1:
                    t.insert(at, "; 0719abch\u00ffA".charAt(random.nextInt(12)));
                    break;
                case 2:
                    t.setLength(at);
                    break;
                default:
                    t.insert(at, random.nextBoolean() ? ";tooth c 0 1" : ";barrel 8 1 0");
                    break;
            }
        }
        text = t.toString();
    }

    private void call(String told) throws IllegalAccessException {
        String[] parts = told.split(" ");
        Object[] args = new Object[parts.length - 1];
        for (int i = 0; i < args.length; i++) {
            args[i] = argument(parts[i + 1]);
        }
        both(parts[0], args);
    }

    private Object argument(String kind) {
        switch (kind) {
            case "u": return within(0, told.size(1) - 1);
            case "s": return within(0, told.size(0) - 1);
            case "t": return within(0, told.size(4) - 1);
            case "n": return within(0, told.size(5) - 1);
            case "p": return random.nextInt(25) == 0 ? within(0, 23) : aPitch();
            case "i": return within(0, random.nextInt(3) == 0 ? 250 : 12);
            case "h": return within(Math.max(0, told.size(10) - 105), told.size(10));
            case "b": return random.nextInt(3) > 0;
            default:
                String[] ends = kind.split("\\.\\.");
                return within(Integer.parseInt(ends[0]), Integer.parseInt(ends[1]));
        }
    }

    private int within(int least, int greatest) {
        switch (random.nextInt(60)) {
            case 0: return least - 1;
            case 1: return greatest + 1;
            case 2: return random.nextBoolean() ? Integer.MIN_VALUE : Integer.MAX_VALUE;
            default: return greatest < least ? least : least + random.nextInt(greatest - least + 1);
        }
    }

    private void both(String name, Object... args) throws IllegalAccessException {
        if (made.size() >= CALLS_PROMISED) {
            return;
        }
        String key = name + args.length;
        String got = answer(REAL.get(key), real, args);
        String want = answer(TOLD.get(key), told, args);
        made.add(name + java.util.Arrays.toString(args) + "=" + got);
        if (!got.equals(want)) {
            agree = false;
            Check.fault(name + java.util.Arrays.toString(args) + " answered " + got + ", the model says " + want);
        }
    }

    private static String answer(Method m, Object of, Object[] args) throws IllegalAccessException {
        try {
            return String.valueOf(m.invoke(of, args));
        } catch (InvocationTargetException e) {
            return "throws." + e.getCause().getClass().getSimpleName();
        }
    }

    private void compareAll() throws IllegalAccessException {
        for (int what = 0; what <= 13; what++) {
            both("size", what);
        }
        for (int tooth = 0; tooth < told.size(4); tooth++) {
            for (int what = 0; what <= 7; what++) {
                both("tooth", tooth, what);
            }
        }
        for (int note = 0; note < told.size(5); note++) {
            for (int what = 0; what <= 3; what++) {
                both("note", note, what);
            }
        }
        for (int tune = 0; tune < told.size(1); tune++) {
            for (int step = 0; step < told.size(0); step++) {
                both("chord", tune, step);
            }
        }
    }
}
