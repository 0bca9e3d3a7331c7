/** The edges that the document names for what there is: sections 1 and 3 and promises 6 to 12. */
final class BoxEdgeTest {
    public static void main(String[] args) {
        sizes();
        sizesThatMove();
        needs();
        toothPins();
        toothPlucks();
        ringsAgain();
        notes();
        playedNotes();
        pins();
        pinSteps();
        chords();
        fullest();
        Check.end();
    }

    private static void sizes() {
        Check.sentence("Promise 6: 0 to 3, STEPS, TUNES, GAP, SPEED");
        PinBarrel x = Check.box("barrel 64 3 2;speed 4");
        int[] loaded = {64, 3, 2, 4};
        for (int what = 0; what < 4; what++) {
            Check.same("size(" + what + ")", x.size(what), loaded[what]);
        }
        Check.sentence("Promise 6: 4 teeth, 5 notes, from none to as many as there may be");
        PinBarrel y = Check.box("barrel 8 2 0" + ";note0 0c0".repeat(58));
        for (int i = 0; i < 12; i++) {
            Check.same("teeth", y.size(4), i);
            y.addTooth(i, 1);
        }
        Check.same("12 teeth", y.size(4), 12);
        y.addNote(1, 7, 23);
        Check.same("59 notes", y.size(5), 59);
        y.addNote(0, 0, 0);
        Check.same("60 notes", y.size(5), 60);
        y.dropNote(0);
        Check.same("59 notes again", y.size(5), 59);
        Check.sentence("Promise 6: 6, pins of all tunes");
        for (int tooth = 0; tooth < 12; tooth++) {
            Check.same("pins", y.size(6), 3 * tooth);
            y.setPin(0, 0, tooth, true);
            y.setPin(1, 7, tooth, true);
            y.setPin(1, 0, tooth, true);
        }
        Check.same("pins", y.size(6), 36);
        y.clear(1);
        Check.same("pins without those of a tune", y.size(6), 12);
    }

    private static void sizesThatMove() {
        Check.sentence("Promise 6: 7, the tune to which the barrel is shifted");
        PinBarrel x = Check.box("barrel 9 3 1;tooth c 0 2;tooth d 0 1;pin 0 8 0;pin 0 0 0;pin 2 0 1");
        for (int tune = 2; tune >= 0; tune--) {
            x.shift(tune);
            Check.same("tune", x.size(7), tune);
        }
        Check.sentence("1: behind the last step comes step 0 again (size 8)");
        for (int tick = 0; tick < 20; tick++) {
            Check.same("step", x.size(8), tick % 9);
            Check.sentence("Promise 6: 9, ticks since load()");
            Check.same("ticks", x.size(9), tick);
            x.run(1);
            Check.sentence("1: behind the last step comes step 0 again (size 8)");
        }
        Check.sentence("Promise 6: 10, plucks since load(), 11, those that buzzed");
        Check.same("plucks", x.size(10), 5);
        Check.same("buzzes", x.size(11), 2);
        Check.sentence("Promise 6: 12, collisions");
        Check.same("none", x.size(12), 0);
        x.setPin(1, 0, 0, true);
        Check.same("one", x.size(12), 1);
        Check.sentence("Promise 6: 13, actions that can be taken back");
        Check.same("at most 8", x.size(13), 8);
        x.undo();
        Check.same("one less", x.size(13), 7);
        PinBarrel y = new PinBarrel();
        for (int i = 0; i < 10; i++) {
            Check.same("actions", y.size(13), Math.min(i, 8));
            y.setGap(0);
        }
    }

    private static void needs() {
        Check.sentence("1: a tooth needs REST * SPEED steps");
        PinBarrel x = Check.box("barrel 8 1 0;tooth c 0 1;tooth c 0 12");
        for (int speed = 1; speed <= 4; speed++) {
            x.setSpeed(speed);
            Check.same("the smallest REST", x.tooth(0, 2), speed);
            Check.same("the largest REST", x.tooth(1, 2), 12 * speed);
        }
        for (int rest = 1; rest <= 12; rest++) {
            x.setRest(0, rest);
            Check.same("its REST", x.tooth(0, 1), rest);
            Check.same("its need", x.tooth(0, 2), 4 * rest);
        }
        Check.sentence("Promise 7: 0, its PITCH");
        x.retune(0, 23);
        Check.same("23", x.tooth(0, 0), 23);
        x.retune(0, 0);
        Check.same("0", x.tooth(0, 0), 0);
    }

    private static void toothPins() {
        Check.sentence("Promise 7: 3, its pins of all tunes");
        PinBarrel x = Check.box("barrel 64 3 0" + ";tooth c 0 1".repeat(12)
                + ";pin 0 0 11;pin 0 63 11;pin 1 63 11;pin 2 0 11;pin 2 5 10;pin 0 5 0");
        int[] want = {1, 0, 0, 0, 0, 0, 0, 0, 0, 0, 1, 4};
        for (int tooth = 0; tooth < 12; tooth++) {
            Check.same("pins of tooth " + tooth, x.tooth(tooth, 3), want[tooth]);
        }
        PinBarrel y = Check.box("barrel 64 1 0;tooth c 0 1;tooth c 0 1");
        for (int step = 0; step < 64; step++) {
            y.setPin(0, step, 1, true);
        }
        Check.same("one at each step", y.tooth(1, 3), 64);
        Check.same("none of the other tooth", y.tooth(0, 3), 0);
        Check.same("all pins", y.size(6), 64);
    }

    private static void toothPlucks() {
        Check.sentence("Promise 7: 6, the tick at which it was plucked last (NONE if it never was)");
        PinBarrel x = Check.box("barrel 8 2 0;tooth c 0 3;tooth d 0 9;pin 0 0 0;pin 0 2 0;pin 0 7 1;pin 1 1 1");
        Check.same("before any tick", x.tooth(0, 6), PinBarrel.NONE);
        x.run(1);
        Check.same("in tick 0", x.tooth(0, 6), 0);
        Check.same("another tooth", x.tooth(1, 6), PinBarrel.NONE);
        x.run(1);
        Check.same("a pin of another tune plucks nothing", x.tooth(1, 6), PinBarrel.NONE);
        x.run(1);
        Check.same("also by a buzz", x.tooth(0, 6), 2);
        x.run(5);
        Check.same("in the last step", x.tooth(1, 6), 7);
        x.run(8);
        Check.same("around", x.tooth(1, 6), 15);
        Check.sentence("Promise 7: 4, its plucks, 5, those that buzzed");
        Check.same("plucks of tooth 0", x.tooth(0, 4), 4);
        Check.same("buzzes of tooth 0", x.tooth(0, 5), 2);
        Check.same("plucks of tooth 1", x.tooth(1, 4), 2);
        Check.same("buzzes of tooth 1", x.tooth(1, 5), 1);
    }

    private static void ringsAgain() {
        Check.sentence("Promise 7: 7, in how many ticks a pluck would ring again (0 if in the next tick)");
        PinBarrel x = Check.box("barrel 8 1 0;tooth c 0 3;tooth d 0 1;pin 0 0 0;pin 0 0 1");
        Check.same("never plucked", x.tooth(0, 7), 0);
        x.run(1);
        Check.same("a need of 1", x.tooth(1, 7), 0);
        int[] want = {2, 1, 0, 0, 0, 0, 0};
        for (int tick = 1; tick < 8; tick++) {
            Check.same("before tick " + tick, x.tooth(0, 7), want[tick - 1]);
            x.run(1);
        }
        x.run(1);
        Check.same("plucked again", x.tooth(0, 7), 2);
        x.setRest(0, 12);
        x.setSpeed(4);
        Check.same("by its need as it is now", x.tooth(0, 7), 47);
        x.setRest(0, 1);
        x.setSpeed(1);
        Check.same("by its need as it is now", x.tooth(0, 7), 0);
        for (int ticks = 0; ticks < 3; ticks++) {
            PinBarrel y = Check.box("barrel 8 1 0;tooth c 0 3;pin 0 0 0");
            y.run(1 + ticks);
            int left = y.tooth(0, 7);
            y.setPin(0, 1 + ticks + left, 0, true);
            Check.same("a pluck after so many ticks rings", y.run(left + 1), 1);
            Check.same("no buzz", y.size(11), 0);
            if (left > 0) {
                y.undo();
                y.setPin(0, ticks + left, 0, true);
                y.run(left);
                Check.same("a pluck one tick ahead buzzes", y.size(11), 1);
            }
        }
    }

    private static void notes() {
        Check.sentence("1: notes are numbered as they were told or added, over all tunes");
        PinBarrel x = Check.box("barrel 64 3 0;note 2 63 b 1;note 0 0 c 0;note 1 5 c 1");
        x.addNote(0, 63, 23);
        int[][] want = {{2, 63, 23}, {0, 0, 0}, {1, 5, 12}, {0, 63, 23}};
        for (int note = 0; note < 4; note++) {
            Check.same("tune", x.note(note, 0), want[note][0]);
            Check.same("step", x.note(note, 1), want[note][1]);
            Check.same("PITCH", x.note(note, 2), want[note][2]);
        }
    }

    private static void playedNotes() {
        Check.sentence("3: a note is played by a pin of its tune at its step, of a tooth of its PITCH");
        PinBarrel x = Check.box("barrel 8 2 0;tooth c 0 1;tooth c 1 1;tooth c 0 1;note 0 7 c 0");
        Check.same("Promise 8: NONE if it is missing", x.note(0, 3), PinBarrel.NONE);
        x.setPin(1, 7, 0, true);
        Check.same("a pin of another tune", x.note(0, 3), PinBarrel.NONE);
        x.setPin(0, 6, 0, true);
        x.setPin(0, 0, 0, true);
        Check.same("pins at the steps beside it, also around", x.note(0, 3), PinBarrel.NONE);
        x.setPin(0, 7, 1, true);
        Check.same("a pin of another octave's tooth", x.note(0, 3), PinBarrel.NONE);
        x.setPin(0, 7, 2, true);
        Check.same("its pin", x.note(0, 3), 2);
        Check.sentence("3: the first one by the first such pin (by teeth), the second one by the second, and so on");
        x.setPin(0, 7, 0, true);
        Check.same("the first of two", x.note(0, 3), 0);
        x.addNote(0, 6, 0);
        x.addNote(0, 7, 0);
        x.addNote(1, 7, 0);
        x.addNote(0, 7, 12);
        x.addNote(0, 7, 0);
        int[] want = {0, 0, 2, 0, 1, PinBarrel.NONE};
        for (int note = 0; note < want.length; note++) {
            Check.same("note " + note, x.note(note, 3), want[note]);
        }
        x.dropNote(0);
        Check.same("the second one is the first one then", x.note(1, 3), 0);
        Check.same("and the third one the second one", x.note(4, 3), 2);
    }

    private static void pins() {
        Check.sentence("Promise 9: Tells whether there is a pin, at the first and the last of each");
        PinBarrel x = Check.box("barrel 64 3 0" + ";tooth c 0 1".repeat(12) + ";pin 0 0 0;pin 2 63 11");
        int count = 0;
        for (int tooth = 0; tooth < 12; tooth += 11) {
            for (int step = 0; step < 64; step++) {
                count += x.hasPin(0, step, tooth) || x.hasPin(2, step, tooth) ? 1 : 0;
            }
        }
        Check.same("no other ones", count, 2);
        Check.same("the first one", x.hasPin(0, 0, 0), true);
        Check.same("the last one", x.hasPin(2, 63, 11), true);
        Check.same("its track of another tune", x.hasPin(1, 63, 11), false);
    }

    private static void pinSteps() {
        Check.sentence("Promise 10: by steps, from 0");
        PinBarrel x = Check.box("barrel 64 2 0;tooth c 0 1;tooth c 0 1;pin 0 63 0;pin 0 0 0;pin 0 31 0;pin 0 32 0");
        int[] want = {0, 31, 32, 63};
        for (int index = 0; index < 4; index++) {
            Check.same("place " + index, x.pinStep(0, 0, index), want[index]);
        }
        Check.sentence("Promise 10: NONE if there is no such place");
        Check.same("behind the last one", x.pinStep(0, 0, 4), PinBarrel.NONE);
        Check.same("-1", x.pinStep(0, 0, -1), PinBarrel.NONE);
        Check.same("the least number", x.pinStep(0, 0, Integer.MIN_VALUE), PinBarrel.NONE);
        Check.same("the greatest number", x.pinStep(0, 0, Integer.MAX_VALUE), PinBarrel.NONE);
        Check.same("2^32 / 64", x.pinStep(0, 0, 1 << 26), PinBarrel.NONE);
        Check.same("another tune", x.pinStep(1, 0, 0), PinBarrel.NONE);
        Check.same("another tooth", x.pinStep(0, 1, 0), PinBarrel.NONE);
        for (int step = 0; step < 64; step++) {
            x.setPin(0, step, 0, true);
        }
        Check.same("the first of 64", x.pinStep(0, 0, 0), 0);
        Check.same("the last of 64", x.pinStep(0, 0, 63), 63);
        Check.same("behind 64", x.pinStep(0, 0, 64), PinBarrel.NONE);
    }

    private static void chords() {
        Check.sentence("Promise 11: the sum of 2^tooth");
        PinBarrel x = Check.box("barrel 64 2 0" + ";tooth c 0 1".repeat(12) + ";pin 1 63 11;pin 1 63 0;pin 0 0 5");
        Check.same("the first and the last tooth", x.chord(1, 63), 2049);
        Check.same("one", x.chord(0, 0), 32);
        Check.same("none", x.chord(0, 63), 0);
        Check.same("around there is none", x.chord(1, 0), 0);
        for (int tooth = 0; tooth < 12; tooth++) {
            x.setPin(0, 63, tooth, true);
        }
        Check.same("all of them", x.chord(0, 63), 4095);
    }

    private static void fullest() {
        Check.sentence("Promise 12: the step at which a tune has the most pins");
        PinBarrel x = Check.box("barrel 64 2 0;tooth c 0 1;tooth c 0 1;tooth c 0 1;pin 0 63 0;pin 1 5 0;pin 1 5 1");
        Check.same("one pin, at the last step", x.fullest(0), 63);
        x.setPin(0, 0, 2, true);
        Check.same("of several the first one", x.fullest(0), 0);
        x.setPin(0, 63, 2, true);
        Check.same("two pins, at the last step", x.fullest(0), 63);
        x.setPin(0, 62, 1, true);
        x.setPin(0, 62, 0, true);
        Check.same("of several the first one", x.fullest(0), 62);
        Check.same("the other tune", x.fullest(1), 5);
        Check.sentence("Promise 12: NONE without pins");
        x.clear(1);
        Check.same("the other tune has none", x.fullest(1), PinBarrel.NONE);
        Check.same("no teeth", new PinBarrel().fullest(0), PinBarrel.NONE);
    }
}
