/** The edges that the document names for what is taken back and kept: section 6 and promises 57 to 59. */
final class PastEdgeTest {
    private static final String TEXT = "barrel 9 2 1;tooth c 0 2;tooth d 0 3;note 0 1 c 0;note 0 4 d 0;note 1 8 c 0;"
            + "pin 0 0 0;pin 0 1 1;pin 1 8 0";

    public static void main(String[] args) {
        nothingToTakeBack();
        latestEight();
        afterTakingBack();
        whatCounts();
        eachAction();
        whatStays();
        saving();
        savedSlots();
        restoring();
        everythingRestored();
        Check.end();
    }

    private static void nothingToTakeBack() {
        Check.sentence("Promise 57: NONE if there is none");
        PinBarrel x = new PinBarrel();
        Check.same("a new box", x.undo(), PinBarrel.NONE);
        x.setGap(3);
        Check.same("one action", x.undo(), 0);
        Check.same("it is taken back", x.size(2), 0);
        Check.same("no action is left", x.undo(), PinBarrel.NONE);
        Check.same("still none", x.undo(), PinBarrel.NONE);
        x.setGap(2);
        Check.load(x, TEXT);
        Check.same("after load()", x.undo(), PinBarrel.NONE);
        Check.same("the loaded box", x.size(0), 9);
        x.saveSnapshot(1);
        x.setGap(2);
        x.restoreSnapshot(1);
        Check.same("after restoreSnapshot()", x.undo(), PinBarrel.NONE);
        Check.same("the restored box", x.size(2), 1);
    }

    private static void latestEight() {
        Check.sentence("6: the latest 8 of them can be taken back");
        for (int actions = 0; actions <= 20; actions++) {
            PinBarrel x = Check.box("barrel 8 1 0;tooth c 0 1");
            for (int i = 1; i <= actions; i++) {
                x.retune(0, i);
            }
            int kept = Math.min(actions, 8);
            Check.same("after " + actions + " actions", x.size(13), kept);
            for (int i = 1; i <= kept; i++) {
                Check.same("Promise 57: returns how many can be taken back then", x.undo(), kept - i);
                Check.same("the box ahead of it", x.tooth(0, 0), actions - i);
            }
            Check.same("no more", x.undo(), PinBarrel.NONE);
            Check.same("nothing changes", x.tooth(0, 0), actions - kept);
        }
    }

    private static void afterTakingBack() {
        Check.sentence("Promise 57: the latest action that was not taken back");
        PinBarrel x = Check.box("barrel 8 1 0;tooth c 0 1");
        for (int i = 1; i <= 3; i++) {
            x.retune(0, i);
        }
        x.undo();
        x.undo();
        x.retune(0, 10);
        Check.same("actions", x.size(13), 2);
        x.undo();
        Check.same("ahead of the latest one", x.tooth(0, 0), 1);
        x.undo();
        Check.same("ahead of the first one", x.tooth(0, 0), 0);
        Check.same("those taken back are gone", x.undo(), PinBarrel.NONE);
        for (int i = 1; i <= 8; i++) {
            x.retune(0, i);
        }
        x.undo();
        Check.same("seven", x.size(13), 7);
        x.retune(0, 11);
        Check.same("eight", x.size(13), 8);
        x.retune(0, 12);
        Check.same("eight, without the oldest", x.size(13), 8);
        for (int i = 7; i >= 0; i--) {
            Check.same("undo", x.undo(), i);
        }
        Check.same("behind the oldest", x.tooth(0, 0), 1);
    }

    private static void whatCounts() {
        Check.sentence("6: those that did not return WRONG or FULL");
        PinBarrel x = Check.box("barrel 8 1 0" + ";tooth c 0 1".repeat(12) + ";note 0 0 b 1;note 0 1 c 0");
        x.setGap(1);
        Check.same("addTooth", x.addTooth(0, 1), PinBarrel.FULL);
        Check.same("lay", x.lay(0), PinBarrel.WRONG);
        Check.same("transpose", x.transpose(0, 1), PinBarrel.WRONG);
        Check.same("transpose", x.transpose(0, -1), PinBarrel.WRONG);
        Check.same("one action", x.size(13), 1);
        Check.sentence("6: the methods that are called actions; no others can be taken back");
        x.append(0x62L);
        x.writeTooth(0, 0);
        x.writeStep(0, 0);
        x.saveSnapshot(0);
        x.ringsIn(5);
        x.bestTurn(0);
        x.restoreSnapshot(1);
        Check.same("one action", x.size(13), 1);
        x.load();
        Check.same("a load with an error", x.size(13), 1);
        Check.same("undo takes the action back", x.undo(), 0);
        Check.same("GAP", x.size(2), 0);
    }

    private static void eachAction() {
        Check.sentence("6: the methods that are called actions can be taken back");
        PinBarrel[] box = new PinBarrel[1];
        Check.Call[] actions = {() -> box[0].addNote(1, 8, 23), () -> box[0].dropNote(0), () -> box[0].addTooth(23, 12),
            () -> box[0].setRest(1, 12), () -> box[0].retune(1, 23), () -> box[0].setPin(1, 8, 1, true),
            () -> box[0].setPin(0, 0, 0, false), () -> box[0].clear(0), () -> box[0].lay(0),
            () -> box[0].transpose(0, 21), () -> box[0].turn(0, 8), () -> box[0].reverse(0), () -> box[0].setSpeed(4),
            () -> box[0].setGap(3), () -> box[0].shift(1), () -> box[0].run(200)};
        for (int i = 0; i < actions.length; i++) {
            box[0] = Check.box(TEXT);
            box[0].setRest(0, 12);
            box[0].run(20);
            box[0].setRest(0, 9);
            Check.same("buzzes ahead of it", box[0].size(11), 2);
            String before = Whole.now(box[0]);
            actions[i].make();
            Check.same("action " + i + " changes something", Whole.now(box[0]).equals(before), false);
            Check.same("action " + i + " counts", box[0].size(13), 4);
            Check.same("undo of action " + i, box[0].undo(), 3);
            Check.same("undo of action " + i + " takes all of it back", Whole.now(box[0]), before);
        }
    }

    private static void whatStays() {
        Check.sentence("Promise 57: The output stays");
        PinBarrel x = Whole.rich();
        String beside = Whole.beside(x);
        for (int left = 2; left >= 0; left--) {
            Check.same("undo", x.undo(), left);
            String now = Whole.beside(x);
            Check.same("the output, the buffer, the results of load()", now.substring(0, now.length() - 1),
                    beside.substring(0, beside.length() - 1));
        }
        Check.same("the snapshots", x.restoreSnapshot(0), 3);
        Check.same("with what had been played", x.size(9), 5);
    }

    private static void saving() {
        Check.sentence("Promise 58: Returns the number of pins");
        PinBarrel x = new PinBarrel();
        Check.same("none", x.saveSnapshot(0), 0);
        Check.load(x, TEXT);
        Check.same("of all tunes", x.saveSnapshot(1), 3);
        Check.sentence("Promise 58: everything except the input buffer, the results of load, the actions, the output");
        Whole.unchanged("a snapshot saved and overwritten", PastEdgeTest::snapped, y -> y.saveSnapshot(1));
    }

    private static PinBarrel snapped() {
        PinBarrel x = Whole.rich();
        x.saveSnapshot(1);
        return x;
    }

    private static void savedSlots() {
        Check.sentence("Promise 58: slot 0 or 1");
        PinBarrel x = Check.box(TEXT);
        x.saveSnapshot(0);
        Check.sentence("Promise 59: NONE if nothing was saved there");
        Check.same("the other slot", x.restoreSnapshot(1), PinBarrel.NONE);
        x.clear(0);
        x.saveSnapshot(1);
        Check.same("slot 0", x.restoreSnapshot(0), 3);
        Check.same("slot 1", x.restoreSnapshot(1), 1);
        PinBarrel y = Check.box(TEXT);
        y.saveSnapshot(1);
        Check.same("the other slot", y.restoreSnapshot(0), PinBarrel.NONE);
        Check.same("slot 1", y.restoreSnapshot(1), 3);
        x.clear(1);
        Check.same("saved anew in its place", x.saveSnapshot(1), 0);
        Check.same("slot 1", x.restoreSnapshot(1), 0);
        Check.same("slot 0", x.restoreSnapshot(0), 3);
    }

    private static void restoring() {
        Check.sentence("Promise 59: a copy of a snapshot, which stays");
        PinBarrel x = Check.box(TEXT);
        x.saveSnapshot(0);
        String saved = Whole.now(x);
        for (int i = 0; i < 3; i++) {
            x.addTooth(23, 12);
            x.addNote(1, 8, 23);
            x.turn(0, 8);
            x.setPin(1, 0, 1, true);
            x.setRest(0, 12);
            x.run(9);
            Check.same("restoreSnapshot", x.restoreSnapshot(0), 3);
            Check.same("as it was", Whole.now(x), saved);
            Check.sentence("Promise 59: nothing can be taken back then");
            Check.same("actions", x.size(13), 0);
            Check.same("undo", x.undo(), PinBarrel.NONE);
            Check.sentence("Promise 59: a copy of a snapshot, which stays");
        }
        x.clear(0);
        Check.same("an action behind it can be taken back", x.undo(), 0);
        Check.same("as it was", Whole.now(x), saved);
    }

    private static void everythingRestored() {
        Check.sentence("Promise 59: Replaces everything");
        PinBarrel x = Check.box("barrel 16 3 3;speed 4;tooth b 1 12;note 2 15 b 1;pin 2 15 0;pin 2 0 0");
        x.shift(2);
        x.run(17);
        x.saveSnapshot(1);
        String saved = Whole.now(x);
        String plucks = x.heard(0, 0) + " " + x.heard(1, 0) + " " + x.heard(2, 0) + " " + x.heard(3, 0);
        Check.same("the plucks", plucks, "0 15 16 -1");
        Check.load(x, "barrel 8 1 0;tooth c 0 1;pin 0 0 0");
        x.setRest(0, 12);
        x.run(200);
        x.writeTooth(0, 0);
        Check.load(x, "barrel 8 1 0;tooth c 0 1;pin 0 0 1");
        Check.put(x, "bar");
        Check.same("restoreSnapshot", x.restoreSnapshot(1), 2);
        Check.same("all of it", Whole.now(x), saved);
        Check.same("the plucks", x.heard(0, 0) + " " + x.heard(1, 0) + " " + x.heard(2, 0) + " " + x.heard(3, 0),
                plucks);
        Check.sentence("Promise 59: but the output, the input buffer and the results of load()");
        Check.same("all of them", Whole.beside(x), "c0:o....... 3 2 2 0");
        Check.same("step 0", x.hasPin(2, 0, 0), true);
        x.run(1);
        Check.same("it plays on", x.size(9), 18);
    }
}
