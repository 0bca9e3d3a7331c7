/** Promises 57 to 59: undo, and snapshots. */
final class PastTest {
    private static final String TEXT = "barrel 9 2 1;tooth c 0 2;tooth d 0 3;note 0 1 c 0;note 0 4 d 0;note 1 8 c 0;"
            + "pin 0 0 0;pin 0 1 1;pin 1 8 0";

    public static void main(String[] args) {
        whatUndoLeaves();
        eightActions();
        snapshots();
        Check.end();
    }

    private static void whatUndoLeaves() {
        PinBarrel x = Check.box(TEXT);
        x.run(3);
        x.writeStep(0, 1);
        x.append(98);
        Check.same("undo", x.undo(), 0);
        Check.same("no ticks", x.size(9), 0);
        Check.same("the output stays", x.outputByte(0), 'c');
        Check.same("the buffer stays", x.append(0), 1);
        Check.same("nothing is left", x.undo(), -1);
        Check.same("STEPS", x.size(0), 9);
    }

    private static String state(PinBarrel x) {
        StringBuilder text = new StringBuilder();
        for (int what = 0; what < 13; what++) {
            text.append(x.size(what)).append(' ');
        }
        for (int tooth = 0; tooth < x.size(4); tooth++) {
            for (int what = 0; what < 8; what++) {
                text.append(x.tooth(tooth, what)).append(' ');
            }
        }
        for (int note = 0; note < x.size(5); note++) {
            for (int what = 0; what < 3; what++) {
                text.append(x.note(note, what)).append(' ');
            }
        }
        for (int step = 0; step < x.size(0); step++) {
            text.append(x.chord(0, step)).append(' ').append(x.chord(1, step)).append(' ');
        }
        return text.append(x.heard(0, 0)).append(x.heard(1, 0)).toString();
    }

    private static void eightActions() {
        PinBarrel x = Check.box(TEXT);
        for (int i = 1; i <= 10; i++) {
            x.retune(0, i);
            Check.same("actions", x.size(13), Math.min(i, 8));
        }
        for (int i = 7; i >= 4; i--) {
            Check.same("undo", x.undo(), i);
        }
        Check.same("PITCH", x.tooth(0, 0), 6);
        x.retune(0, 20);
        Check.same("one more", x.size(13), 5);
        for (int i = 4; i >= 0; i--) {
            Check.same("undo", x.undo(), i);
        }
        Check.same("the oldest one that is kept", x.tooth(0, 0), 2);
        Check.same("undo", x.undo(), -1);
        Check.same("PITCH", x.tooth(0, 0), 2);
    }

    private static void snapshots() {
        PinBarrel x = Check.box(TEXT);
        Check.same("nothing saved", x.restoreSnapshot(1), -1);
        x.run(2);
        Check.same("restore of nothing leaves actions", x.restoreSnapshot(0), -1);
        Check.same("actions", x.size(13), 1);
        String first = state(x);
        Check.same("saveSnapshot(0)", x.saveSnapshot(0), 3);
        Check.same("saving is no action", x.size(13), 1);
        x.clear(0);
        x.run(9);
        String second = state(x);
        Check.same("saveSnapshot(1)", x.saveSnapshot(1), 1);
        Check.same("restoreSnapshot(0)", x.restoreSnapshot(0), 3);
        Check.same("as it was", state(x), first);
        Check.same("nothing can be taken back", x.size(13), 0);
        Check.same("nothing can be taken back", x.undo(), -1);
        x.clear(0);
        x.addTooth(1, 1);
        x.writeTooth(0, 0);
        x.append(98);
        Check.load(x, "arre");
        Check.same("restoreSnapshot(1)", x.restoreSnapshot(1), 1);
        Check.same("as it was", state(x), second);
        Check.same("the results of load stay", x.loadError(), 1);
        Check.same("the results of load stay", x.loadStatement(), 0);
        Check.same("the output stays", x.outputByte(0), 'c');
        x.append(98);
        Check.same("restoreSnapshot(0) again", x.restoreSnapshot(0), 3);
        Check.same("it stays as it was", state(x), first);
        Check.same("the buffer stays", x.append(0), 1);
        x.clear(1);
        x.saveSnapshot(0);
        Check.same("saved anew", x.restoreSnapshot(0), 2);
        Check.illegal("saveSnapshot(2)", () -> x.saveSnapshot(2));
        Check.illegal("saveSnapshot(-1)", () -> x.saveSnapshot(-1));
        Check.illegal("restoreSnapshot(2)", () -> x.restoreSnapshot(2));
        Check.illegal("restoreSnapshot(-1)", () -> x.restoreSnapshot(-1));
    }
}
