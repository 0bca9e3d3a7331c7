/**
 * What can be asked of a box, as one text, so that two boxes can be compared. Each part takes less than 512 calls of a
 * small box; past, kept and input use the box up.
 */
final class Whole {
    interface Maker {
        PinBarrel make();
    }

    interface Part {
        String of(PinBarrel box);
    }

    /** All parts; each is asked of a box of its own. */
    static final Part[] PARTS = {Whole::now, Whole::beside, Whole::past, Whole::kept, Whole::input};

    private Whole() {
    }

    /** The barrel, its teeth, notes and pins, and the playing. */
    static String now(PinBarrel x) {
        return look(x, 7, 3, 60);
    }

    /** The same with less of each, so that several of them take less than 512 calls. */
    private static String brief(PinBarrel x) {
        return look(x, 1, 2, 4);
    }

    private static String look(PinBarrel x, int toothFacts, int noteFacts, int latestNotes) {
        StringBuilder text = new StringBuilder();
        for (int what = 0; what < 13; what++) {
            text.append(x.size(what)).append(' ');
        }
        int teeth = x.size(4);
        for (int tooth = 0; tooth < teeth; tooth++) {
            text.append("tooth ").append(x.tooth(tooth, 6)).append(' ');
            for (int what = 0; what <= toothFacts; what++) {
                text.append(x.tooth(tooth, what)).append(' ');
            }
        }
        int notes = x.size(5);
        for (int note = Math.max(0, notes - latestNotes); note < notes; note++) {
            text.append("note ");
            for (int what = 0; what <= noteFacts; what++) {
                text.append(x.note(note, what)).append(' ');
            }
        }
        int steps = x.size(0);
        int tunes = x.size(1);
        for (int place = 0; place < tunes * steps; place++) {
            text.append(place % steps == 0 ? "pins " : "").append(x.chord(place / steps, place % steps)).append(' ');
        }
        heard(x, text);
        return text.toString();
    }

    private static void heard(PinBarrel x, StringBuilder text) {
        int plucks = x.size(10);
        for (int index = Math.max(0, plucks - 3); index < plucks; index++) {
            text.append("heard ");
            for (int what = 0; what < 4; what++) {
                text.append(x.heard(index, what)).append(' ');
            }
        }
    }

    /** The output, the length of the input buffer, the results of the latest load, and how many actions are kept. */
    static String beside(PinBarrel x) {
        StringBuilder text = new StringBuilder();
        for (int i = 0; x.outputByte(i) != PinBarrel.NONE && i < 400; i++) {
            text.append((char) x.outputByte(i));
        }
        text.append(' ').append(x.append(0L)).append(' ').append(x.loadError()).append(' ').append(x.loadStatement());
        return text.append(' ').append(x.size(13)).toString();
    }

    /** The box after each action that can be taken back. */
    static String past(PinBarrel x) {
        StringBuilder text = new StringBuilder();
        for (int left = x.undo(); left != PinBarrel.NONE; left = x.undo()) {
            text.append(left).append(": ").append(brief(x)).append('\n');
        }
        return text.append(brief(x)).toString();
    }

    /** The snapshots. */
    static String kept(PinBarrel x) {
        StringBuilder text = new StringBuilder();
        for (int slot = 0; slot < 2; slot++) {
            text.append(x.restoreSnapshot(slot)).append(": ").append(brief(x)).append('\n');
        }
        return text.toString();
    }

    /** The bytes in the input buffer, as far as their reading tells. */
    static String input(PinBarrel x) {
        return x.load() + " " + x.loadError() + " " + x.loadStatement() + " " + now(x);
    }

    /** A small box in which everything is something: pins, plucks, actions, a snapshot, output, input, a load error. */
    static PinBarrel rich() {
        PinBarrel x = Check.box("barrel 8 2 1;speed 2;tooth c 0 1;tooth d 0 2;"
                + "note 0 1 c 0;note 0 4 d 0;note 1 7 c 0;pin 0 1 0;pin 0 4 1;pin 1 7 0");
        x.run(5);
        x.saveSnapshot(0);
        x.addNote(1, 2, 5);
        x.shift(1);
        x.writeTooth(0, 1);
        Check.load(x, "barrel 8 1 0;speed 5");
        Check.put(x, "barrel 9 1 0;note 0 8 b 1");
        return x;
    }

    /** A call after which the box must be as if it had not been made. */
    static void unchanged(String name, Maker maker, java.util.function.Consumer<PinBarrel> call) {
        for (int i = 0; i < PARTS.length; i++) {
            PinBarrel with = maker.make();
            call.accept(with);
            Check.same(name + ": part " + i + " of the box", PARTS[i].of(with), PARTS[i].of(maker.make()));
        }
    }
}
