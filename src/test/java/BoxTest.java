/** Promises 6 to 12: what there is. */
final class BoxTest {
    private static final String TEXT = "barrel 10 2 2;speed 2;tooth c 0 3;tooth gis 1 1;tooth c 0 5;"
            + "note 0 4 c 0;note 1 4 c 0;note 0 4 c 0;note 0 4 c 0;"
            + "pin 0 4 0;pin 0 4 2;pin 1 9 1;pin 0 7 0;pin 0 0 0";

    public static void main(String[] args) {
        sizes();
        teeth();
        notes();
        pins();
        Check.end();
    }

    private static void sizes() {
        PinBarrel x = Check.box(TEXT);
        same(x, new int[] {10, 2, 2, 2, 3, 4, 5, 0, 0, 0, 0, 0, 0, 0});
        x.run(5);
        same(x, new int[] {10, 2, 2, 2, 3, 4, 5, 0, 5, 5, 3, 1, 0, 1});
        x.shift(1);
        x.run(7);
        x.setPin(1, 4, 0, true);
        same(x, new int[] {10, 2, 2, 2, 3, 4, 6, 1, 2, 12, 4, 1, 1, 4});
        Check.illegal("size(-1)", () -> x.size(-1));
        Check.illegal("size(14)", () -> x.size(14));
    }

    private static void same(PinBarrel x, int[] want) {
        for (int what = 0; what < want.length; what++) {
            Check.same("size(" + what + ")", x.size(what), want[what]);
        }
    }

    private static void teeth() {
        PinBarrel x = Check.box(TEXT);
        tooth(x, 0, new int[] {0, 3, 6, 3, 0, 0, -1, 0});
        tooth(x, 1, new int[] {20, 1, 2, 1, 0, 0, -1, 0});
        x.run(5);
        tooth(x, 0, new int[] {0, 3, 6, 3, 2, 1, 4, 5});
        tooth(x, 2, new int[] {0, 5, 10, 1, 1, 0, 4, 9});
        x.run(4);
        Check.same("rests after 9 ticks", x.tooth(0, 7), 4);
        x.setRest(0, 2);
        Check.same("by the need as it is", x.tooth(0, 7), 2);
        x.setRest(0, 1);
        Check.same("a need that is over", x.tooth(0, 7), 0);
        Check.outside("tooth(-1, 0)", () -> x.tooth(-1, 0));
        Check.outside("tooth(3, 9)", () -> x.tooth(3, 9));
        Check.illegal("tooth(0, -1)", () -> x.tooth(0, -1));
        Check.illegal("tooth(2, 8)", () -> x.tooth(2, 8));
    }

    private static void tooth(PinBarrel x, int tooth, int[] want) {
        for (int what = 0; what < want.length; what++) {
            Check.same("tooth(" + tooth + ", " + what + ")", x.tooth(tooth, what), want[what]);
        }
    }

    private static void notes() {
        PinBarrel x = Check.box(TEXT);
        note(x, 0, new int[] {0, 4, 0, 0});
        note(x, 1, new int[] {1, 4, 0, -1});
        note(x, 2, new int[] {0, 4, 0, 2});
        note(x, 3, new int[] {0, 4, 0, -1});
        x.setPin(0, 4, 0, false);
        Check.same("the first note by the first pin", x.note(0, 3), 2);
        Check.same("no pin left for the second one", x.note(2, 3), -1);
        x.retune(2, 1);
        Check.same("a pin of another PITCH", x.note(0, 3), -1);
        Check.outside("note(-1, 0)", () -> x.note(-1, 0));
        Check.outside("note(4, 7)", () -> x.note(4, 7));
        Check.illegal("note(3, 4)", () -> x.note(3, 4));
        Check.illegal("note(3, -1)", () -> x.note(3, -1));
    }

    private static void note(PinBarrel x, int note, int[] want) {
        for (int what = 0; what < want.length; what++) {
            Check.same("note(" + note + ", " + what + ")", x.note(note, what), want[what]);
        }
    }

    private static void pins() {
        PinBarrel x = Check.box(TEXT);
        Check.same("hasPin(0, 4, 0)", x.hasPin(0, 4, 0), true);
        Check.same("hasPin(1, 4, 0)", x.hasPin(1, 4, 0), false);
        Check.same("hasPin(0, 4, 1)", x.hasPin(0, 4, 1), false);
        Check.same("hasPin(0, 5, 0)", x.hasPin(0, 5, 0), false);
        Check.same("hasPin(1, 9, 1)", x.hasPin(1, 9, 1), true);
        Check.illegal("hasPin(2, 0, 0)", () -> x.hasPin(2, 0, 0));
        Check.illegal("hasPin(-1, 0, 9)", () -> x.hasPin(-1, 0, 9));
        Check.illegal("hasPin(0, 10, 9)", () -> x.hasPin(0, 10, 9));
        Check.illegal("hasPin(0, -1, 0)", () -> x.hasPin(0, -1, 0));
        Check.outside("hasPin(0, 0, 3)", () -> x.hasPin(0, 0, 3));
        Check.outside("hasPin(0, 0, -1)", () -> x.hasPin(0, 0, -1));
        int[] steps = {0, 4, 7, -1};
        for (int i = 0; i < steps.length; i++) {
            Check.same("pinStep(0, 0, " + i + ")", x.pinStep(0, 0, i), steps[i]);
        }
        Check.same("pinStep(0, 0, -1)", x.pinStep(0, 0, -1), -1);
        Check.same("pinStep of another tune", x.pinStep(1, 0, 0), -1);
        Check.same("the last step", x.pinStep(1, 1, 0), 9);
        Check.illegal("pinStep(2, 5, 0)", () -> x.pinStep(2, 5, 0));
        Check.illegal("pinStep(-1, 5, 0)", () -> x.pinStep(-1, 5, 0));
        Check.outside("pinStep(1, 3, 0)", () -> x.pinStep(1, 3, 0));
        Check.outside("pinStep(1, -1, -1)", () -> x.pinStep(1, -1, -1));
        Check.same("chord(0, 4)", x.chord(0, 4), 5);
        Check.same("chord(1, 9)", x.chord(1, 9), 2);
        Check.same("chord(1, 4)", x.chord(1, 4), 0);
        Check.illegal("chord(2, 0)", () -> x.chord(2, 0));
        Check.illegal("chord(-1, 0)", () -> x.chord(-1, 0));
        Check.illegal("chord(0, 10)", () -> x.chord(0, 10));
        Check.illegal("chord(0, -1)", () -> x.chord(0, -1));
        Check.same("fullest(0)", x.fullest(0), 4);
        Check.same("fullest(1)", x.fullest(1), 9);
        x.setPin(0, 4, 2, false);
        Check.same("fullest of several", x.fullest(0), 0);
        x.clear(0);
        Check.same("fullest without pins", x.fullest(0), -1);
        Check.illegal("fullest(2)", () -> x.fullest(2));
        Check.illegal("fullest(-1)", () -> x.fullest(-1));
    }
}
