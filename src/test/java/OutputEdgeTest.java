/** The edges that the document names for shares and the output: promises 52 and 54 to 56. */
final class OutputEdgeTest {
    private static final String[] NAMES = {"c", "cis", "d", "dis", "e", "f", "fis", "g", "gis", "a", "ais", "b"};

    public static void main(String[] args) {
        wear();
        teeth();
        everyStep();
        steps();
        manyNotes();
        bytes();
        inPlaceOfWhatItHad();
        Check.end();
    }

    private static void wear() {
        Check.sentence("Promise 52: 0.0 without pins");
        PinBarrel x = Check.box("barrel 64 3 0" + ";tooth c 0 1".repeat(12));
        Check.same("no pins", x.wear(0), 0.0);
        Check.same("no pins", x.wear(11), 0.0);
        Check.sentence("Promise 52: (double) tooth(tooth, 3) / (double) size(6)");
        x.setPin(2, 63, 11, true);
        Check.same("all of them", x.wear(11), 1.0);
        Check.same("none of them", x.wear(0), 0.0);
        x.setPin(0, 0, 0, true);
        x.setPin(1, 0, 0, true);
        Check.same("two of three, of all tunes", x.wear(0), 2.0 / 3.0);
        Check.same("one of three", x.wear(11), 1.0 / 3.0);
    }

    private static void teeth() {
        Check.sentence("Promise 54: its NAME and OCTAVE, a colon, and o or a full stop for each step");
        PinBarrel x = Check.box("barrel 8 2 0;tooth c 0 1;pin 0 0 0;pin 0 7 0;pin 1 3 0");
        for (int pitch = 0; pitch < 24; pitch++) {
            x.retune(0, pitch);
            String name = NAMES[pitch % 12] + pitch / 12;
            Check.same("length", x.writeTooth(0, 0), name.length() + 9);
            Check.same("PITCH " + pitch, Check.output(x, name.length() + 9), name + ":o......o");
        }
        Check.same("the other tune", Check.output(x, x.writeTooth(1, 0)), "b1:...o....");
        int[] want = {98, 49, 58, 46, 46, 46, 111, 46, 46, 46, 46};
        for (int i = 0; i < want.length; i++) {
            Check.same("byte " + i, x.outputByte(i), want[i]);
        }
    }

    private static void everyStep() {
        Check.sentence("Promise 54: for each step of a tune");
        for (int steps = 8; steps <= 64; steps++) {
            PinBarrel x = Check.box("barrel " + steps + " 3 0" + ";tooth b 1 1".repeat(11) + ";tooth ais 1 1;pin 2 "
                    + (steps - 1) + " 11");
            Check.same("the last step", Check.output(x, x.writeTooth(2, 11)), "ais1:" + ".".repeat(steps - 1) + "o");
            Check.same("length", x.writeTooth(2, 11), 5 + steps);
            Check.same("no pins", Check.output(x, x.writeTooth(1, 11)), "ais1:" + ".".repeat(steps));
        }
    }

    private static void steps() {
        Check.sentence("Promise 55: nothing without notes");
        PinBarrel x = Check.box("barrel 64 2 0;tooth c 0 1;pin 0 63 0;note 1 63 c 0;note 0 62 c 0;note 0 0 c 0");
        x.writeTooth(0, 0);
        Check.same("length", x.writeStep(0, 63), 0);
        Check.same("no byte", x.outputByte(0), PinBarrel.NONE);
        Check.same("no notes at all", new PinBarrel().writeStep(0, 7), 0);
        Check.sentence("Promise 55: each one, by PITCH, with a plus sign between two");
        Check.same("one", Check.output(x, x.writeStep(1, 63)), "c0");
        x.addNote(1, 63, 23);
        Check.same("two", Check.output(x, x.writeStep(1, 63)), "c0+b1");
        x.addNote(1, 63, 12);
        x.addNote(1, 63, 11);
        Check.same("four, added in another order", Check.output(x, x.writeStep(1, 63)), "c0+b0+c1+b1");
        Check.sentence("Promise 55: also of like ones");
        x.addNote(1, 63, 0);
        x.addNote(1, 63, 23);
        Check.same("like ones", Check.output(x, x.writeStep(1, 63)), "c0+c0+b0+c1+b1+b1");
        Check.same("the plus sign", x.outputByte(2), 43);
    }

    private static void manyNotes() {
        Check.sentence("Promise 55: of all notes at a step, up to 60");
        PinBarrel x = Check.box("barrel 8 1 0");
        StringBuilder want = new StringBuilder();
        for (int i = 0; i < 60; i++) {
            x.addNote(0, 7, 22 - i % 2 * 12);
        }
        for (int i = 0; i < 60; i++) {
            want.append(i == 0 ? "" : "+").append(i < 30 ? "ais0" : "ais1");
        }
        Check.same("length", x.writeStep(0, 7), 299);
        Check.same("60 of four bytes", Check.output(x, 299), want.toString());
    }

    private static void bytes() {
        Check.sentence("Promise 56: the byte; NONE if there is none");
        PinBarrel x = Check.box("barrel 8 1 0;tooth c 0 1");
        Check.same("an empty output", x.outputByte(0), PinBarrel.NONE);
        int length = x.writeTooth(0, 0);
        Check.same("the first byte", x.outputByte(0), 'c');
        Check.same("the last byte", x.outputByte(length - 1), '.');
        Check.same("behind it", x.outputByte(length), PinBarrel.NONE);
        Check.same("-1", x.outputByte(-1), PinBarrel.NONE);
        Check.same("the least number", x.outputByte(Integer.MIN_VALUE), PinBarrel.NONE);
        Check.same("the greatest number", x.outputByte(Integer.MAX_VALUE), PinBarrel.NONE);
    }

    private static void inPlaceOfWhatItHad() {
        Check.sentence("Promises 54 and 55: in place of what it had");
        PinBarrel x = Check.box("barrel 64 1 0;tooth gis 1 1;note 0 0 c 0");
        Check.same("a long one", x.writeTooth(0, 0), 69);
        Check.same("a short one", x.writeStep(0, 0), 2);
        Check.same("its bytes", Check.output(x, 2), "c0");
        for (int i = 2; i < 70; i++) {
            Check.same("nothing of the long one", x.outputByte(i), PinBarrel.NONE);
        }
        Check.same("a long one again", Check.output(x, x.writeTooth(0, 0)), "gis1:" + ".".repeat(64));
        Check.same("an empty one", x.writeStep(0, 1), 0);
        Check.same("nothing is left", x.outputByte(0), PinBarrel.NONE);
    }
}
