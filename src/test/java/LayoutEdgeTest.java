/** The edges that the document names for layouts: section 4 and promises 19 to 26. */
final class LayoutEdgeTest {
    public static void main(String[] args) {
        withoutNotes();
        withoutTeeth();
        orderOfNotes();
        orderOfTeeth();
        needAndSteps();
        onOneTooth();
        besideOtherTunes();
        besideLaidOnes();
        ownPins();
        goingBack();
        manyTries();
        laidTeeth();
        spareTeeth();
        fastestSpeeds();
        neededTeeth();
        wantedPitches();
        wantedTooth();
        bestTurns();
        Check.end();
    }

    private static void withoutNotes() {
        Check.sentence("4: without notes it is found by 0 tries");
        PinBarrel[] boxes = {new PinBarrel(), Check.box("barrel 8 2 3;tooth c 0 12;pin 0 0 0;pin 1 0 0;note 1 0 c 0")};
        for (PinBarrel x : boxes) {
            Check.same("tries", x.tries(0), 0);
            Check.same("canLay", x.canLay(0), 1);
            Check.same("fastest", x.fastest(0), 4);
            Check.same("needed", x.needed(0), PinBarrel.NONE);
            Check.same("wanted", x.wanted(0), 0);
            Check.same("spare", x.spare(0), (1 << x.size(4)) - 1);
            Check.same("lay", x.lay(0), 0);
        }
        Check.same("the pins of the other tune stay", boxes[1].size(6), 1);
    }

    private static void withoutTeeth() {
        Check.sentence("Promise 19: or to know that there is none, by 0 tries if no tooth has the PITCH");
        PinBarrel x = Check.box("barrel 8 1 0;tooth c 1 1;note 0 0 c 0");
        Check.same("tries", x.tries(0), 0);
        Check.sentence("Promise 20: 0 if not");
        Check.same("canLay", x.canLay(0), 0);
        Check.sentence("Promise 21: NONE if there is no layout");
        Check.same("laidOn", x.laidOn(0), PinBarrel.NONE);
        Check.sentence("Promise 22: NONE if there is no layout");
        Check.same("spare", x.spare(0), PinBarrel.NONE);
        Check.sentence("Promise 23: NONE if there is none");
        Check.same("fastest", x.fastest(0), PinBarrel.NONE);
        Check.sentence("Promise 24: NONE if there is no layout as things are");
        Check.same("needed", x.needed(0), PinBarrel.NONE);
        Check.sentence("Promise 44: WRONG if there is no layout");
        Check.same("lay", x.lay(0), PinBarrel.WRONG);
        x.addTooth(0, 1);
        Check.same("with a tooth of its PITCH: tries", x.tries(0), 1);
        Check.same("with a tooth of its PITCH: laidOn", x.laidOn(0), 1);
    }

    private static void orderOfNotes() {
        Check.sentence("4: the notes are taken by steps");
        PinBarrel x = Check.box("barrel 64 1 0;tooth c 0 1;tooth d 0 1;note 0 63 b 1;note 0 62 d 0;note 0 0 c 0");
        Check.same("the one without a tooth is the last", x.tries(0), 2);
        x.turn(0, 1);
        Check.same("it is the first", x.tries(0), 0);
        x.turn(0, 63);
        x.addNote(0, 0, 22);
        Check.same("one at the first step, behind by PITCH", x.tries(0), 1);
        Check.sentence("4: of the same step by PITCH");
        PinBarrel y = Check.box("barrel 8 1 0;tooth b 1 1;tooth b 1 1;tooth c 0 1;"
                + "note 0 3 b 1;note 0 3 b 0;note 0 3 c 0");
        Check.same("c, then the one without a tooth", y.tries(0), 1);
        y.dropNote(1);
        Check.same("c, then b", y.tries(0), 2);
        Check.sentence("4: of the same by their numbers");
        PinBarrel z = Check.box("barrel 8 2 0;tooth c 0 1;tooth c 0 1;tooth c 0 1;"
                + "note 0 7 c 0;note 1 7 c 0;note 0 7 c 0;note 0 7 c 0");
        int[] want = {0, 0, 1, 2};
        for (int note = 0; note < 4; note++) {
            Check.same("laidOn(" + note + ")", z.laidOn(note), want[note]);
        }
        Check.same("tries", z.tries(0), 1 + 2 + 3);
    }

    private static void orderOfTeeth() {
        Check.sentence("4: each one is tried with the teeth of its PITCH, by their numbers");
        PinBarrel x = Check.box("barrel 8 1 0;tooth b 1 1;tooth c 0 1" + ";tooth b 1 1".repeat(2)
                + ";tooth b 0 1".repeat(7) + ";tooth c 0 1;note 0 7 c 0;note 0 0 b 1");
        Check.same("the first of its teeth", x.laidOn(0), 1);
        Check.same("the first of its teeth", x.laidOn(1), 0);
        Check.same("tries", x.tries(0), 2);
        x.setRest(1, 12);
        Check.same("the last tooth", x.laidOn(0), 11);
        Check.same("teeth of another PITCH are not tried", x.tries(0), 3);
        x.addNote(0, 7, 0);
        Check.same("no third one", x.canLay(0), 0);
    }

    private static void needAndSteps() {
        Check.sentence("4: a pin fits if the need of the tooth is not above STEPS");
        for (int steps = 8; steps <= 11; steps++) {
            PinBarrel x = Check.box("barrel " + steps + " 1 0;tooth c 0 1;note 0 " + (steps - 1) + " c 0");
            x.setRest(0, steps);
            Check.same("a need of STEPS", x.canLay(0), 1);
            x.setRest(0, steps + 1);
            Check.same("a need of STEPS + 1", x.canLay(0), 0);
            Check.same("it is a try", x.tries(0), 1);
        }
        PinBarrel y = Check.box("barrel 48 1 0;speed 4;tooth c 0 12;note 0 0 c 0");
        Check.same("REST * SPEED of 48", y.canLay(0), 1);
        PinBarrel z = Check.box("barrel 47 1 0;speed 4;tooth c 0 12;note 0 0 c 0");
        Check.same("REST * SPEED of 48 with 47 steps", z.canLay(0), 0);
    }

    private static void onOneTooth() {
        Check.sentence("4: the pins that were laid for notes ahead on this tooth are not less than the need apart");
        for (int steps : new int[] {8, 9, 24, 63, 64}) {
            for (int from = 0; from < steps; from++) {
                for (int to = from; to < steps; to++) {
                    int way = Math.min(to - from, steps - (to - from));
                    PinBarrel x = Check.box("barrel " + steps + " 1 3;tooth c 0 1;note 0 " + from + " c 0;note 0 " + to
                            + " c 0");
                    String told = "steps " + from + " and " + to + " of " + steps;
                    if (way >= 1 && way <= 12) {
                        x.setRest(0, way);
                        Check.same(told + ": as far apart as the need", x.canLay(0), 1);
                    }
                    if (way < 12) {
                        x.setRest(0, way + 1);
                        Check.same(told + ": less than the need", x.canLay(0), 0);
                        Check.same(told + ": tries", x.tries(0), way + 1 > steps ? 1 : 2);
                    }
                }
            }
        }
    }

    private static void besideOtherTunes() {
        Check.sentence("4: it has no collision with a pin of another tune");
        for (int steps : new int[] {8, 64}) {
            for (int gap = 0; gap <= 3; gap++) {
                for (int apart = 0; apart < 5; apart++) {
                    int[] froms = {0, 1, steps - 1, steps - 2};
                    for (int from : froms) {
                        besideAtSteps(steps, gap, from, (from + apart) % steps, apart < gap);
                        besideAtSteps(steps, gap, (from + apart) % steps, from, apart < gap);
                    }
                }
            }
        }
        PinBarrel x = Check.box("barrel 8 3 3;tooth c 0 1;tooth d 0 1;note 0 0 c 0;pin 2 0 0;pin 0 0 1;pin 1 0 1");
        Check.same("tracks that differ by 2 and more, and its own", x.canLay(0), 1);
        x.setPin(1, 0, 0, true);
        Check.same("the next track", x.canLay(0), 0);
    }

    private static void besideAtSteps(int steps, int gap, int note, int pin, boolean collide) {
        String told = "a note at " + note + ", a pin at " + pin + " of " + steps + " with GAP " + gap;
        PinBarrel x = Check.box("barrel " + steps + " 2 " + gap + ";tooth c 0 1;tooth d 0 1;note 1 " + note
                + " c 0;pin 0 " + pin + " 0");
        Check.same(told + " on the track below", x.canLay(1), collide ? 0 : 1);
        x.clear(0);
        x.setPin(0, pin, 1, true);
        Check.same(told + " on the track above", x.canLay(1), collide ? 0 : 1);
        Check.same(told + ": tries", x.tries(1), 1);
    }

    private static void besideLaidOnes() {
        Check.sentence("4: or with one that was laid for a note ahead");
        for (int gap = 0; gap <= 3; gap++) {
            for (int apart = 0; apart < 5; apart++) {
                for (int from : new int[] {0, 6, 7}) {
                    int to = (from + apart) % 8;
                    boolean near = apart < gap || 8 - apart < gap;
                    PinBarrel x = Check.box("barrel 8 1 " + gap + ";tooth c 0 1;tooth d 0 1;tooth e 0 1;tooth d 0 1;"
                            + "note 0 " + from + " c 0;note 0 " + to + " d 0");
                    String told = "steps " + from + " and " + to + " with GAP " + gap;
                    Check.same(told + ": c", x.laidOn(0), 0);
                    boolean first = to < from;
                    Check.same(told + ": d", x.laidOn(1), near ? 3 : 1);
                    Check.same(told + ": tries", x.tries(0), near ? first ? 4 : 3 : 2);
                }
            }
        }
        PinBarrel x = Check.box("barrel 8 2 3;tooth c 0 1;tooth d 0 1;note 0 0 c 0;note 0 0 d 0");
        Check.same("with two tunes the tracks of one tune differ by 2", x.tries(0), 2);
    }

    private static void ownPins() {
        Check.sentence("4: Pins of this tune that there are do not matter");
        PinBarrel x = Check.box("barrel 8 1 3;tooth c 0 8;tooth d 0 8;note 0 0 c 0;"
                + "pin 0 1 0;pin 0 7 0;pin 0 0 1;pin 0 7 1");
        Check.same("tries", x.tries(0), 1);
        Check.same("laidOn", x.laidOn(0), 0);
        Check.same("needed", x.needed(0), 0);
        Check.same("fastest", x.fastest(0), 1);
        Check.same("lay takes them away", x.lay(0), 1);
        Check.same("pins", x.size(6), 1);
    }

    private static void goingBack() {
        Check.sentence("4: if none fits, it goes on with the next tooth of the note ahead (its teeth are tried anew)");
        // The d stands beside tooth 1, so the c goes on from tooth 1 to tooth 3.
        PinBarrel x = Check.box("barrel 8 1 1;tooth e 0 1;tooth c 0 1;tooth d 0 1;tooth c 0 1;tooth f 0 1;"
                + "note 0 5 c 0;note 0 5 d 0");
        x.retune(3, 7);
        Check.same("no other tooth", x.canLay(0), 0);
        Check.same("tries", x.tries(0), 2);
        x.undo();
        Check.same("beside both", x.canLay(0), 0);
        Check.same("tries of both", x.tries(0), 4);
        x.addTooth(0, 1);
        Check.same("a tooth apart", x.laidOn(0), 5);
        Check.same("the d", x.laidOn(1), 2);
        Check.same("tries of three", x.tries(0), 6);
        x.addNote(0, 0, 4);
        Check.same("a note ahead of all is tried once", x.tries(0), 7);
        x.addNote(0, 7, 7);
        Check.same("a note behind without a tooth", x.canLay(0), 0);
    }

    // ---- 4000 tries ----

    private static final String LATE = "barrel 64 1 3;tooth d 0 1;tooth c 0 1;tooth e 0 1;tooth f 0 1;tooth f 0 1;"
            + "tooth g 0 1;tooth g 0 1;tooth g 0 1;tooth c 0 1;note 0 1 c 0;note 0 63 d 0;note 0 5 g 0;note 0 9 f 0;"
            + "note 0 13 g 0;note 0 17 e 0;note 0 21 g 0;note 0 25 g 0;note 0 29 e 0;note 0 33 e 0;note 0 37 g 0;"
            + "note 0 41 g 0";
    // 4(1+3(1+4(1+2(1+4(1+3(1+2)))))) = 4000 tries before it is known that the f has no tooth.
    private static final String NEVER = "barrel 12 1 0;tooth c 0 1;tooth c 0 1;tooth c 0 1;tooth c 0 1;tooth d 0 1;"
            + "tooth d 0 1;tooth d 0 1;tooth e 0 1;tooth e 0 1;note 0 1 c 0;note 0 2 d 0;note 0 3 c 0;note 0 4 e 0;"
            + "note 0 5 c 0;note 0 6 d 0;note 0 7 e 0;note 0 8 f 0";

    /** The same with one more note, ahead of all others, that takes one try. */
    private static PinBarrel withOneTry(String text) {
        PinBarrel x = Check.box(text);
        x.addTooth(22, 1);
        x.addTooth(23, 1);
        x.addNote(0, 0, 23);
        return x;
    }

    private static void manyTries() {
        Check.sentence("4: if more than 4000 tries would be made until it is found, it is unknown");
        PinBarrel late = Check.box(LATE);
        Check.same("found by 4000: tries", late.tries(0), 4000);
        Check.same("found by 4000: canLay", late.canLay(0), 1);
        Check.same("found by 4000: laidOn", late.laidOn(0), 8);
        Check.same("found by 4000: spare", late.spare(0), 2 + 16 + 64 + 128);
        Check.same("found by 4000: lay", late.lay(0), 12);
        unknown(withOneTry(LATE), 4);
        Check.sentence("4: or until it is known that there is none");
        PinBarrel never = Check.box(NEVER);
        Check.same("none by 4000: tries", never.tries(0), 4000);
        Check.same("none by 4000: canLay", never.canLay(0), 0);
        Check.same("none by 4000: lay", never.lay(0), PinBarrel.WRONG);
        unknown(withOneTry(NEVER), PinBarrel.NONE);
        PinBarrel x = withOneTry(NEVER);
        x.addTooth(5, 1);
        Check.same("with a tooth for the f the first layout is found", x.tries(0), 9);
    }

    private static void unknown(PinBarrel x, int wanted) {
        Check.sentence("Promise 19: FULL if it is unknown");
        Check.same("tries", x.tries(0), PinBarrel.FULL);
        Check.sentence("Promise 20: FULL if it is unknown");
        Check.same("canLay", x.canLay(0), PinBarrel.FULL);
        Check.sentence("Promise 21: NONE if it is unknown");
        Check.same("laidOn", x.laidOn(0), PinBarrel.NONE);
        Check.sentence("Promise 22: NONE if it is unknown");
        Check.same("spare", x.spare(0), PinBarrel.NONE);
        Check.sentence("Promise 24: NONE if it is unknown");
        Check.same("needed", x.needed(0), PinBarrel.NONE);
        Check.sentence("Promise 44: FULL if it is unknown");
        Check.same("lay", x.lay(0), PinBarrel.FULL);
    }

    // ---- what a layout tells ----

    private static void laidTeeth() {
        Check.sentence("Promise 21: the tooth for a note in the layout of its tune");
        PinBarrel x = Check.box("barrel 8 3 0" + ";tooth c 0 1".repeat(11)
                + ";tooth b 1 1;note 2 7 b 1;note 0 0 d 0;note 1 0 c 0");
        Check.same("the last tooth", x.laidOn(0), 11);
        Check.same("a tune without a layout", x.laidOn(1), PinBarrel.NONE);
        Check.same("the first tooth", x.laidOn(2), 0);
    }

    private static void spareTeeth() {
        Check.sentence("Promise 22: the sum of 2^tooth over the teeth that the layout does not need");
        PinBarrel x = Check.box("barrel 64 1 0" + ";tooth c 0 12".repeat(12));
        for (int notes = 0; notes <= 12; notes++) {
            Check.same("with " + notes + " notes", x.spare(0), 4095 >> notes << notes);
            x.addNote(0, 5, 0);
        }
        Check.same("with 13 notes at one step", x.spare(0), PinBarrel.NONE);
        x.dropNote(12);
        x.addNote(0, 17, 0);
        Check.same("with one that has rested", x.spare(0), 0);
    }

    private static void fastestSpeeds() {
        Check.sentence("Promise 23: the greatest SPEED, 1 to 4");
        int[] want = {4, 4, 2, 2, 1, 1, 1, 1, PinBarrel.NONE, PinBarrel.NONE, PinBarrel.NONE, PinBarrel.NONE};
        PinBarrel x = Check.box("barrel 8 1 0;tooth c 0 1;note 0 7 c 0");
        for (int rest = 1; rest <= 12; rest++) {
            x.setRest(0, rest);
            for (int speed = 1; speed <= 4; speed++) {
                x.setSpeed(speed);
                Check.same("REST " + rest, x.fastest(0), want[rest - 1]);
                Check.same("SPEED stays", x.size(3), speed);
            }
        }
        PinBarrel y = Check.box("barrel 36 1 0;tooth c 0 12;note 0 0 c 0");
        Check.same("3", y.fastest(0), 3);
        Check.sentence("Promise 23: one with which it is unknown is as one without");
        for (int speed = 1; speed <= 3; speed++) {
            PinBarrel z = Check.box("barrel " + (12 * speed + 2) + " 1 0;tooth d 0 12" + ";tooth c 0 1".repeat(9)
                    + ";note 0 5 d 0;note0 0c0;note0 1c0;note0 2c0;note0 3c0;note0 4c0");
            z.setSpeed(speed + 1);
            Check.same("unknown with one more", z.tries(0), PinBarrel.FULL);
            Check.same("the greatest one below", z.fastest(0), speed);
        }
        PinBarrel none = Check.box("barrel 11 1 0;tooth d 0 12" + ";tooth c 0 1".repeat(9)
                + ";note 0 5 d 0;note0 0c0;note0 1c0;note0 2c0;note0 3c0;note0 4c0");
        Check.same("unknown with each", none.fastest(0), PinBarrel.NONE);
    }

    private static void neededTeeth() {
        Check.sentence("Promise 24: the lowest one without which there is none");
        PinBarrel x = Check.box("barrel 8 1 0" + ";tooth c 0 1".repeat(11) + ";tooth b 1 1;note 0 0 b 1;note 0 1 c 0");
        Check.same("the last tooth", x.needed(0), 11);
        x.addNote(0, 1, 23);
        Check.same("still it", x.needed(0), 11);
        PinBarrel y = Check.box("barrel 8 1 0;tooth c 0 1;tooth b 1 1;note 0 0 b 1;note 0 1 c 0");
        Check.same("the lower one of two", y.needed(0), 0);
        Check.sentence("Promise 24: NONE if there is no such tooth");
        y.addTooth(0, 1);
        y.addTooth(23, 1);
        Check.same("each has another one", y.needed(0), PinBarrel.NONE);
        Check.sentence("Promise 24: nothing is laid on it then; its pins, tracks and numbers stay");
        PinBarrel z = Check.box("barrel 8 2 1;tooth c 0 1;tooth c 0 1;note 0 0 c 0;pin 1 0 1");
        Check.same("the pin of another tune on it is in the way", z.laidOn(0), 0);
        Check.same("of the other one, whose track lies between", z.needed(0), 0);
        PinBarrel apart = Check.box("barrel 8 1 1;tooth c 0 1;tooth b 1 1;tooth d 0 1;note 0 0 c 0;note 0 0 d 0");
        Check.same("the tracks beside it stay apart", apart.canLay(0), 1);
        apart.addTooth(0, 1);
        Check.same("c could stand beside d alone", apart.needed(0), 0);
        apart.addTooth(2, 1);
        apart.addTooth(2, 1);
        Check.same("d has a place apart", apart.needed(0), PinBarrel.NONE);
        Check.sentence("Promise 24: or it is unknown");
        PinBarrel u = Check.box("barrel 40 1 0" + ";tooth c 0 1".repeat(9) + ";tooth d 0 1;tooth d 0 12;speed 4;"
                + "note0 0c0;note0 1c0;note0 2c0;note0 3c0;note0 4c0;note 0 6 d 0");
        Check.same("unknown without it", u.needed(0), 9);
    }

    private static void wantedPitches() {
        Check.sentence("Promise 25: the lowest PITCH of one more tooth with which there would be a layout");
        for (int pitch = 0; pitch < 24; pitch++) {
            PinBarrel x = new PinBarrel();
            x.addNote(0, 7, pitch);
            Check.same("the one that is missing", x.wanted(0), pitch);
            x.addTooth(pitch, 1);
            Check.same("also if it has one already", x.wanted(0), 0);
            x.setRest(0, 9);
            Check.same("one beside a tooth that is too slow", x.wanted(0), pitch);
        }
        Check.sentence("Promise 25: NONE if there is none");
        PinBarrel x = Check.box("barrel 8 1 0;note 0 0 c 0;note 0 0 b 1");
        Check.same("two are missing", x.wanted(0), PinBarrel.NONE);
        PinBarrel y = Check.box("barrel 8 1 0;note 0 0 c 0;note 0 0 c 0");
        Check.same("two of one PITCH are missing", y.wanted(0), PinBarrel.NONE);
        Check.sentence("Promise 25: NONE if there are 12 teeth");
        PinBarrel z = Check.box("barrel 8 1 0" + ";tooth c 0 1".repeat(11) + ";note 0 0 b 1");
        Check.same("11 teeth", z.wanted(0), 23);
        z.addTooth(0, 1);
        Check.same("12 teeth, without a layout", z.wanted(0), PinBarrel.NONE);
        z.dropNote(0);
        Check.same("12 teeth, with a layout", z.wanted(0), PinBarrel.NONE);
        Check.sentence("Promise 25: a PITCH with which it is unknown is none");
        PinBarrel u = Check.box("barrel 40 1 0" + ";tooth c 0 1".repeat(9)
                + ";note0 0c0;note0 1c0;note0 2c0;note0 3c0;note0 4c0;note 0 6 d 0");
        Check.same("as it is", u.canLay(0), PinBarrel.FULL);
        Check.same("d", u.wanted(0), 2);
        u.addNote(0, 7, 4);
        Check.same("unknown with each", u.wanted(0), PinBarrel.NONE);
    }

    private static void wantedTooth() {
        Check.sentence("Promise 25: of REST 1");
        PinBarrel x = Check.box("barrel 8 1 0;note 0 7 c 0;note 0 0 c 0");
        Check.same("SPEED 1, one step apart around", x.wanted(0), 0);
        x.setSpeed(2);
        Check.same("SPEED 2", x.wanted(0), PinBarrel.NONE);
        Check.sentence("Promise 25: it has the next number");
        PinBarrel y = Check.box("barrel 8 1 1;tooth d 0 1;note 0 0 c 0;note 0 0 d 0");
        Check.same("beside the tooth of the d", y.wanted(0), PinBarrel.NONE);
        y.addTooth(4, 1);
        Check.same("behind another tooth", y.wanted(0), 0);
        PinBarrel z = Check.box("barrel 8 2 1;tooth d 0 1;note 0 0 c 0;pin 1 0 0");
        Check.same("above the pin of another tune", z.wanted(0), PinBarrel.NONE);
        z.turn(1, 7);
        Check.same("one step apart", z.wanted(0), 0);
        z.setGap(2);
        Check.same("too near around", z.wanted(0), PinBarrel.NONE);
        Check.same("no tooth is added", z.size(4), 1);
    }

    private static void bestTurns() {
        Check.sentence("Promise 26: 0 to STEPS - 1, of several the least");
        for (int steps : new int[] {8, 64}) {
            for (int free = 0; free < steps; free++) {
                PinBarrel x = Check.box("barrel " + steps + " 2 1;tooth c 0 1;pin 0 0 0");
                for (int step = 0; step < steps; step++) {
                    x.setPin(1, step, 0, step != free);
                }
                Check.same("one free step", x.bestTurn(0), free);
                Check.same("for the other tune", x.bestTurn(1), (steps - free) % steps);
                x.setPin(1, steps - 1, 0, false);
                Check.same("two free steps", x.bestTurn(0), free);
                x.setPin(1, free, 0, true);
                x.setPin(1, steps - 1, 0, true);
                Check.same("no free step", x.bestTurn(0), 0);
            }
        }
        Check.same("no pins", new PinBarrel().bestTurn(0), 0);
        Check.sentence("Promise 26: moved on around, all others as they are");
        PinBarrel x = Check.box("barrel 8 3 1;tooth c 0 1;pin 0 7 0;pin 0 6 0;pin 1 7 0;pin 1 6 0;pin 1 0 0;"
                + "pin 2 7 0;pin 2 0 0");
        Check.same("over the last step", x.bestTurn(0), 3);
        Check.same("the others' collisions stay", x.size(12), 4);
        x.turn(0, 3);
        Check.same("then none of its own", x.size(12), 2);
        Check.same("it is best as it is", x.bestTurn(0), 0);
        Check.same("the one between two others", x.bestTurn(1), 5);
    }
}
