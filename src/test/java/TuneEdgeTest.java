/** The edges that the document names for the notes and silences of a tune: promises 27 to 30. */
final class TuneEdgeTest {
    public static void main(String[] args) {
        uses();
        mostUsed();
        crowdRows();
        crowdAround();
        crowdOfOthers();
        silences();
        Check.end();
    }

    private static void uses() {
        Check.sentence("Promise 27: Counts the notes of a tune with a PITCH");
        PinBarrel x = Check.box("barrel 8 3 0" + ";note2 7b1".repeat(58));
        Check.same("58 of the last tune and PITCH", x.uses(2, 23), 58);
        x.addNote(2, 0, 0);
        x.addNote(2, 0, 23);
        Check.same("59 of them", x.uses(2, 23), 59);
        Check.same("one of the first PITCH", x.uses(2, 0), 1);
        Check.same("none of the PITCH below", x.uses(2, 22), 0);
        Check.same("none of another octave", x.uses(2, 11), 0);
        Check.same("none of another tune", x.uses(1, 23), 0);
        Check.same("no notes", new PinBarrel().uses(0, 0), 0);
    }

    private static void mostUsed() {
        Check.sentence("Promise 28: NONE without notes");
        PinBarrel x = Check.box("barrel 8 2 0;tooth c 0 1;pin 0 0 0;note 1 0 c 0");
        Check.same("a tune with pins alone", x.mostUsed(0), PinBarrel.NONE);
        Check.same("no notes at all", new PinBarrel().mostUsed(0), PinBarrel.NONE);
        Check.sentence("Promise 28: the PITCH with the most notes of a tune, of several the lowest one");
        x.addNote(0, 0, 23);
        Check.same("the highest PITCH", x.mostUsed(0), 23);
        x.addNote(0, 7, 0);
        Check.same("the lowest of two", x.mostUsed(0), 0);
        x.addNote(0, 3, 23);
        Check.same("two are more than one", x.mostUsed(0), 23);
        x.addNote(0, 3, 22);
        x.addNote(0, 3, 22);
        Check.same("the lower one of two by two", x.mostUsed(0), 22);
        Check.same("the other tune", x.mostUsed(1), 0);
    }

    private static void crowdRows() {
        Check.sentence("Promise 29: how many steps a row has, 1 to 64; STEPS, if it is more");
        PinBarrel x = Check.box("barrel 8 1 0;note 0 0 c 0;note 0 1 c 0;note 0 2 c 0;note 0 3 c 0;note 0 4 c 0;"
                + "note 0 5 c 0;note 0 6 c 0;note 0 7 c 0");
        for (int steps = 1; steps <= 64; steps++) {
            Check.same("a note at each step, rows of " + steps, x.crowd(0, 0, steps), Math.min(steps, 8));
        }
        PinBarrel y = Check.box("barrel 64 1 0;note 0 0 b 1;note 0 63 b 1");
        Check.same("one step", y.crowd(0, 23, 1), 1);
        Check.same("two steps, around", y.crowd(0, 23, 2), 2);
        y.turn(0, 1);
        Check.same("two steps, the first two", y.crowd(0, 23, 2), 2);
        y.turn(0, 62);
        Check.same("two steps, the last two", y.crowd(0, 23, 2), 2);
        PinBarrel z = Check.box("barrel 64 1 0;note 0 10 c 0;note 0 42 c 0");
        Check.same("half of them and one", z.crowd(0, 0, 33), 2);
        Check.same("half of them", z.crowd(0, 0, 32), 1);
        Check.same("all steps but one", z.crowd(0, 0, 63), 2);
        Check.same("all steps", z.crowd(0, 0, 64), 2);
    }

    private static void crowdAround() {
        Check.sentence("Promise 29: in any row of steps around, side by side");
        for (int steps : new int[] {8, 9, 63, 64}) {
            for (int from = 0; from < steps; from++) {
                PinBarrel x = new PinBarrel();
                Check.load(x, "barrel " + steps + " 1 0");
                x.addNote(0, from, 5);
                x.addNote(0, (from + 3) % steps, 5);
                x.addNote(0, (from + 3) % steps, 5);
                Check.same("one step", x.crowd(0, 5, 1), 2);
                Check.same("too few from step " + from, x.crowd(0, 5, 3), 2);
                Check.same("enough from step " + from, x.crowd(0, 5, 4), 3);
                Check.same("no more", x.crowd(0, 5, 64), 3);
            }
        }
    }

    private static void crowdOfOthers() {
        Check.sentence("Promise 29: of a tune with a PITCH");
        PinBarrel x = Check.box("barrel 8 2 0;note 0 0 c 0;note 1 0 c 0;note 0 0 c 1;note 0 0 cis 0");
        Check.same("one", x.crowd(0, 0, 8), 1);
        Check.same("none of the PITCH", x.crowd(1, 1, 8), 0);
        Check.same("without notes", new PinBarrel().crowd(0, 0, 64), 0);
    }

    private static void silences() {
        Check.sentence("Promise 30: NONE without pins");
        PinBarrel x = Check.box("barrel 64 2 0;tooth c 0 1;tooth c 0 1;pin 1 5 0");
        Check.same("pins of another tune alone", x.silence(0), PinBarrel.NONE);
        Check.same("no teeth", new PinBarrel().silence(0), PinBarrel.NONE);
        Check.sentence("Promise 30: STEPS with one such step");
        for (int step = 0; step < 64; step += 21) {
            x.setPin(0, step, 0, true);
            Check.same("one pin", x.silence(0), 64);
            x.setPin(0, step, 1, true);
            Check.same("two pins at one step", x.silence(0), 64);
            x.clear(0);
        }
        Check.sentence("Promise 30: the longest way around to the next such step");
        x.setPin(0, 0, 0, true);
        x.setPin(0, 63, 1, true);
        Check.same("from the first to the last one", x.silence(0), 63);
        x.setPin(0, 32, 1, true);
        Check.same("from the first to the middle one", x.silence(0), 32);
        x.setPin(0, 0, 0, false);
        Check.same("around", x.silence(0), 33);
        PinBarrel y = Check.box("barrel 8 1 0;tooth c 0 1;pin 0 1 0;pin 0 6 0");
        Check.same("on", y.silence(0), 5);
        y.turn(0, 4);
        Check.same("over the last step", y.silence(0), 5);
        for (int step = 0; step < 8; step++) {
            y.setPin(0, step, 0, true);
        }
        Check.same("a pin at each step", y.silence(0), 1);
    }
}
