/** The edges that the document names for actions: section 6 and promises 37 to 49. */
final class ActionEdgeTest {
    public static void main(String[] args) {
        addingNotes();
        droppingNotes();
        addingTeeth();
        newTeeth();
        settingRests();
        retuning();
        settingPins();
        clearing();
        laying();
        transposing();
        transposingOthers();
        turning();
        reversing();
        sixtyNotes();
        speedsAndGaps();
        actionsWithoutChange();
        Check.end();
    }

    private static void addingNotes() {
        Check.sentence("Promise 37: Returns its number; FULL if there are 60");
        PinBarrel x = Check.box("barrel 64 3 0");
        for (int note = 0; note < 60; note++) {
            Check.same("addNote", x.addNote(note % 3, note, note % 24), note);
        }
        Check.same("a 61st one", x.addNote(0, 0, 0), PinBarrel.FULL);
        Check.same("the last one: tune", x.note(59, 0), 2);
        Check.same("the last one: step", x.note(59, 1), 59);
        Check.same("the last one: PITCH", x.note(59, 2), 11);
        x.dropNote(0);
        Check.same("a 60th one again, at the ends", x.addNote(2, 63, 23), 59);
        Check.same("no 61st one again", x.addNote(2, 63, 23), PinBarrel.FULL);
        PinBarrel y = Check.box("barrel 8 1 0" + ";note0 0c0".repeat(60));
        Check.same("a 61st one behind 60 told ones", y.addNote(0, 0, 0), PinBarrel.FULL);
    }

    private static void droppingNotes() {
        Check.sentence("Promise 38: the numbers of those behind become one less");
        for (int drop = 0; drop < 3; drop++) {
            PinBarrel x = Check.box("barrel 64 3 0;note 0 0 c 0;note 1 30 d 0;note 2 63 b 1");
            Check.same("dropNote", x.dropNote(drop), 2);
            int[][] all = {{0, 0, 0}, {1, 30, 2}, {2, 63, 23}};
            for (int note = 0; note < 2; note++) {
                for (int what = 0; what < 3; what++) {
                    int due = all[note < drop ? note : note + 1][what];
                    Check.same("without note " + drop + ": note " + note, x.note(note, what), due);
                }
            }
            Check.outside("the last number is gone", () -> x.note(2, 0));
        }
        Check.sentence("Promise 38: Returns how many notes there are then");
        PinBarrel full = Check.box("barrel 8 1 0" + ";note0 0c0".repeat(59) + ";note 0 7 b 1");
        Check.same("the last of 60", full.dropNote(59), 59);
        Check.same("all others stay", full.uses(0, 0), 59);
        full.undo();
        Check.same("the first of 60", full.dropNote(0), 59);
        Check.same("the last one is behind", full.note(58, 2), 23);
        PinBarrel one = Check.box("barrel 8 1 0;note 0 0 c 0");
        Check.same("the only one", one.dropNote(0), 0);
        Check.outside("no more", () -> one.dropNote(0));
    }

    private static void addingTeeth() {
        Check.sentence("Promise 39: Returns its number; FULL if there are 12");
        PinBarrel x = new PinBarrel();
        for (int tooth = 0; tooth < 12; tooth++) {
            Check.same("addTooth", x.addTooth(23 - tooth, 12 - tooth), tooth);
            Check.same("its PITCH", x.tooth(tooth, 0), 23 - tooth);
            Check.same("its REST", x.tooth(tooth, 1), 12 - tooth);
        }
        Check.same("a 13th one", x.addTooth(0, 1), PinBarrel.FULL);
        Check.same("teeth", x.size(4), 12);
        x.undo();
        Check.same("a 12th one again, of the lowest PITCH", x.addTooth(0, 12), 11);
        Check.same("its PITCH", x.tooth(11, 0), 0);
        PinBarrel y = Check.box("barrel 8 1 0" + ";tooth c 0 1".repeat(12));
        Check.same("a 13th one behind 12 told ones", y.addTooth(0, 1), PinBarrel.FULL);
    }

    private static void newTeeth() {
        Check.sentence("Promise 39: a tooth that is added has no pins and was never plucked");
        PinBarrel x = Check.box("barrel 8 3 0;tooth c 0 12;tooth d 0 12;pin 0 0 1;pin 1 7 1;pin 2 3 1");
        x.run(9);
        Check.same("the tooth with the same number was plucked", x.tooth(1, 4), 2);
        Check.load(x, "barrel 8 3 0;tooth c 0 1");
        Check.same("addTooth", x.addTooth(5, 12), 1);
        int[] want = {5, 12, 12, 0, 0, 0, PinBarrel.NONE, 0};
        for (int what = 0; what < 8; what++) {
            Check.same("tooth(1, " + what + ")", x.tooth(1, what), want[what]);
        }
        x.setPin(0, 0, 1, true);
        x.run(1);
        x.undo();
        x.undo();
        x.undo();
        x.addTooth(6, 1);
        Check.same("after undo: its pins", x.tooth(1, 3), 0);
        Check.same("after undo: its latest pluck", x.tooth(1, 6), PinBarrel.NONE);
    }

    private static void settingRests() {
        Check.sentence("Promise 40: Returns the previous one");
        PinBarrel x = Check.box("barrel 8 1 0" + ";tooth c 0 7".repeat(12));
        Check.same("7 before", x.setRest(11, 12), 7);
        Check.same("12 before", x.setRest(11, 1), 12);
        Check.same("1 before", x.setRest(11, 1), 1);
        Check.same("now", x.tooth(11, 1), 1);
        Check.same("another tooth", x.tooth(10, 1), 7);
    }

    private static void retuning() {
        Check.sentence("Promise 41: Returns the previous one");
        PinBarrel x = Check.box("barrel 8 1 0" + ";tooth d 0 7".repeat(12));
        Check.same("2 before", x.retune(11, 23), 2);
        Check.same("23 before", x.retune(11, 0), 23);
        Check.same("0 before", x.retune(11, 0), 0);
        Check.same("now", x.tooth(11, 0), 0);
        Check.same("another tooth", x.tooth(10, 0), 2);
    }

    private static void settingPins() {
        Check.sentence("Promise 42: Returns whether there was one");
        PinBarrel x = Check.box("barrel 64 3 0" + ";tooth c 0 1".repeat(12));
        int[][] places = {{0, 0, 0}, {2, 63, 11}, {0, 63, 0}, {2, 0, 11}, {1, 32, 5}, {1, 31, 5}};
        for (int i = 0; i < places.length; i++) {
            int[] p = places[i];
            Check.same("none", x.setPin(p[0], p[1], p[2], false), false);
            Check.same("none", x.setPin(p[0], p[1], p[2], true), false);
            Check.same("pins", x.size(6), i + 1);
            Check.same("one", x.setPin(p[0], p[1], p[2], true), true);
            Check.same("there is one", x.hasPin(p[0], p[1], p[2]), true);
        }
        for (int i = 0; i < places.length; i++) {
            int[] p = places[i];
            Check.same("one", x.setPin(p[0], p[1], p[2], false), true);
            Check.same("pins", x.size(6), places.length - 1 - i);
            Check.same("there is none", x.hasPin(p[0], p[1], p[2]), false);
        }
    }

    private static void clearing() {
        Check.sentence("Promise 43: Takes all pins of a tune away; returns how many there were");
        PinBarrel x = Check.box("barrel 8 3 0" + ";tooth c 0 1".repeat(12)
                + ";pin 1 0 0;pin 1 7 11;pin 0 0 0;pin 2 7 11;pin 0 7 11;pin 2 0 0");
        Check.same("of the one between", x.clear(1), 2);
        Check.same("the others stay", x.size(6), 4);
        Check.same("none", x.clear(1), 0);
        Check.same("of the last one", x.clear(2), 2);
        Check.same("of the first one", x.clear(0), 2);
        Check.same("none is left", x.size(6), 0);
        Check.same("no teeth", new PinBarrel().clear(0), 0);
    }

    private static void laying() {
        Check.sentence("Promise 44: Sets the pins of a tune by its layout, in place of those that there are");
        PinBarrel x = Check.box("barrel 8 3 1" + ";tooth c 0 8".repeat(12)
                + ";note 1 7 c 0;note 1 0 c 0;note 0 3 c 0;pin 1 3 11;pin 1 7 3;pin 2 0 11;pin 0 0 0");
        Check.same("lay", x.lay(1), 2);
        Check.same("beside the pin of tune 0 there is no place for step 0", x.laidOn(1), 1);
        Check.same("tooth 1", x.pinStep(1, 1, 0), 0);
        Check.same("tooth 0", x.pinStep(1, 0, 0), 7);
        Check.same("pins", x.size(6), 4);
        Check.same("the others stay", x.hasPin(2, 0, 11) && x.hasPin(0, 0, 0), true);
        Check.sentence("Promise 44: Returns how many there are then");
        Check.same("without notes", x.lay(2), 0);
        Check.same("one", x.lay(0), 1);
        PinBarrel y = Check.box("barrel 64 1 0" + ";tooth c 0 1".repeat(12));
        for (int note = 0; note < 60; note++) {
            y.addNote(0, 63 - note, 0);
        }
        Check.same("60 notes, all on the first tooth", y.lay(0), 60);
        Check.same("its pins", y.tooth(0, 3), 60);
        y.setRest(0, 12);
        y.clear(0);
        Check.same("60 notes, at most 5 of them on the first tooth", y.lay(0), 60);
        Check.same("its pins", y.tooth(0, 3), 5);
        Check.same("it is clean", y.isClean(0), true);
    }

    private static void transposing() {
        Check.sentence("Promise 45: WRONG if a PITCH would be out of its range");
        for (int pitch = 0; pitch < 24; pitch++) {
            for (int by = -23; by <= 23; by++) {
                PinBarrel x = new PinBarrel();
                x.addNote(0, 0, pitch);
                boolean right = pitch + by >= 0 && pitch + by <= 23;
                Check.same("PITCH " + pitch + " by " + by, x.transpose(0, by), right ? 1 : PinBarrel.WRONG);
                Check.same("then", x.note(0, 2), right ? pitch + by : pitch);
                Check.same("actions", x.size(13), right ? 2 : 1);
            }
        }
        PinBarrel y = Check.box("barrel 8 1 0;note 0 0 d 0;note 0 0 c 0;note 0 0 cis 0");
        Check.same("one of three", y.transpose(0, -1), PinBarrel.WRONG);
        Check.same("the one ahead of it stays", y.note(0, 2), 2);
        Check.sentence("Promise 45: Returns how many notes it has");
        Check.same("three", y.transpose(0, 21), 3);
        Check.same("none", new PinBarrel().transpose(0, 23), 0);
        Check.same("none", new PinBarrel().transpose(0, -23), 0);
    }

    private static void transposingOthers() {
        Check.sentence("Promise 45: all notes of a tune");
        PinBarrel x = Check.box("barrel 8 2 0;tooth c 0 1;note 0 0 c 0;note 1 0 b 1;note 0 7 c 0;pin 0 0 0");
        Check.same("the other tune's are not looked at", x.transpose(0, 23), 2);
        Check.same("the first one", x.note(0, 2), 23);
        Check.same("the other tune's", x.note(1, 2), 23);
        Check.same("the last one", x.note(2, 2), 23);
        Check.same("teeth stay", x.tooth(0, 0), 0);
        Check.same("pins stay", x.hasPin(0, 0, 0), true);
        Check.same("steps stay", x.note(2, 1), 7);
    }

    private static void turning() {
        Check.sentence("Promise 46: Moves all notes and pins of a tune on around");
        for (int steps : new int[] {8, 9, 63, 64}) {
            for (int by = 0; by < steps; by++) {
                PinBarrel x = Check.box("barrel " + steps + " 2 0;tooth c 0 1;tooth d 0 1;note 0 0 c 0;note 0 "
                        + (steps - 1) + " d 0;note 1 0 c 0;pin 0 0 0;pin 0 " + (steps - 1) + " 1;pin 1 0 0");
                String told = "turn by " + by + " of " + steps;
                Check.same(told, x.turn(0, by), 2);
                Check.same(told + ": the pin of the first step", x.pinStep(0, 0, 0), by);
                Check.same(told + ": the pin of the last step", x.pinStep(0, 1, 0), (steps - 1 + by) % steps);
                Check.same(told + ": the note of the first step", x.note(0, 1), by);
                Check.same(told + ": the note of the last step", x.note(1, 1), (steps - 1 + by) % steps);
                Check.same(told + ": the other tune's note", x.note(2, 1), 0);
                Check.same(told + ": the other tune's pin", x.pinStep(1, 0, 0), 0);
                Check.same(told + ": all pins", x.size(6), 3);
            }
        }
        Check.same("Returns how many pins it has: none", new PinBarrel().turn(0, 7), 0);
        PinBarrel played = Check.box("barrel 8 1 0;tooth c 0 1;pin 0 0 0");
        played.run(3);
        played.turn(0, 7);
        Check.same("the barrel stays at its step", played.size(8), 3);
        Check.same("what was heard stays", played.heard(0, 0), 0);
    }

    private static void reversing() {
        Check.sentence("Promise 47: all of its notes and pins at the step k come to the step STEPS - 1 - k");
        for (int steps : new int[] {8, 9, 63, 64}) {
            for (int step = 0; step < steps; step++) {
                PinBarrel x = Check.box("barrel " + steps + " 2 0;tooth c 0 1;note 0 " + step + " c 0;note 1 " + step
                        + " c 0;pin 0 " + step + " 0;pin 1 " + step + " 0");
                Check.same("reverse", x.reverse(0), 1);
                Check.same("the pin", x.pinStep(0, 0, 0), steps - 1 - step);
                Check.same("no other pin", x.pinStep(0, 0, 1), PinBarrel.NONE);
                Check.same("the note", x.note(0, 1), steps - 1 - step);
                Check.same("the other tune's pin", x.pinStep(1, 0, 0), step);
                Check.same("the other tune's note", x.note(1, 1), step);
                x.reverse(0);
                Check.same("there and back", x.pinStep(0, 0, 0), step);
            }
        }
        Check.same("Returns how many pins it has: none", new PinBarrel().reverse(0), 0);
    }

    private static void sixtyNotes() {
        Check.sentence("Promises 45 to 47: all notes of a tune, also 60 of them");
        PinBarrel x = Check.box("barrel 64 1 0");
        for (int note = 0; note < 60; note++) {
            x.addNote(0, note, note % 12);
        }
        Check.same("transpose", x.transpose(0, 12), 60);
        for (int note = 0; note < 60; note++) {
            Check.same("PITCH of note " + note, x.note(note, 2), 12 + note % 12);
        }
        Check.same("transpose too far", x.transpose(0, 1), PinBarrel.WRONG);
        Check.same("turn", x.turn(0, 10), 0);
        for (int note = 0; note < 60; note++) {
            Check.same("step of note " + note, x.note(note, 1), (note + 10) % 64);
        }
        Check.same("reverse", x.reverse(0), 0);
        for (int note = 0; note < 60; note++) {
            Check.same("step of note " + note, x.note(note, 1), 63 - (note + 10) % 64);
        }
    }

    private static void speedsAndGaps() {
        Check.sentence("Promise 48: Sets SPEED, 1 to 4; returns the previous one");
        PinBarrel x = new PinBarrel();
        int[] speeds = {4, 1, 3, 2, 2};
        int speed = 1;
        for (int next : speeds) {
            Check.same("setSpeed", x.setSpeed(next), speed);
            Check.same("SPEED", x.size(3), next);
            speed = next;
        }
        Check.sentence("Promise 49: Sets GAP, 0 to 3; returns the previous one");
        int[] gaps = {3, 0, 2, 1, 1};
        int gap = 0;
        for (int next : gaps) {
            Check.same("setGap", x.setGap(next), gap);
            Check.same("GAP", x.size(2), next);
            gap = next;
        }
    }

    private static void actionsWithoutChange() {
        Check.sentence("6: An action counts also if it changes nothing");
        Check.Call[] none = new Check.Call[11];
        PinBarrel[] box = new PinBarrel[1];
        none[0] = () -> box[0].setRest(0, 5);
        none[1] = () -> box[0].retune(0, 0);
        none[2] = () -> box[0].setPin(0, 0, 0, false);
        none[3] = () -> box[0].clear(0);
        none[4] = () -> box[0].lay(0);
        none[5] = () -> box[0].transpose(0, 23);
        none[6] = () -> box[0].turn(0, 0);
        none[7] = () -> box[0].reverse(0);
        none[8] = () -> box[0].setSpeed(1);
        none[9] = () -> box[0].setGap(0);
        none[10] = () -> box[0].shift(0);
        for (int i = 0; i < none.length; i++) {
            box[0] = Check.box("barrel 8 1 0;tooth c 0 5");
            String before = Whole.now(box[0]);
            none[i].make();
            Check.same("action " + i + ": nothing is changed", Whole.now(box[0]), before);
            Check.same("action " + i + ": it can be taken back", box[0].size(13), 1);
            Check.same("action " + i + ": undo", box[0].undo(), 0);
            Check.same("action " + i + ": nothing is changed", Whole.now(box[0]), before);
        }
    }
}
