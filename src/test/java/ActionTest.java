/** Promises 37 to 49: the actions on notes, teeth and pins. */
final class ActionTest {
    public static void main(String[] args) {
        notes();
        teeth();
        pins();
        laying();
        transposing();
        turning();
        settings();
        Check.end();
    }

    private static void notes() {
        PinBarrel x = Check.box("barrel 8 2 0;note 0 1 c 0;note 1 2 d 0;note 0 3 e 0");
        Check.same("addNote", x.addNote(1, 7, 23), 3);
        Check.same("its tune", x.note(3, 0), 1);
        Check.same("its step", x.note(3, 1), 7);
        Check.same("its PITCH", x.note(3, 2), 23);
        Check.same("dropNote", x.dropNote(1), 3);
        Check.same("those behind", x.note(1, 2), 4);
        Check.same("those behind", x.note(2, 2), 23);
        Check.same("those ahead", x.note(0, 2), 0);
        Check.outside("dropNote(3)", () -> x.dropNote(3));
        Check.outside("dropNote(-1)", () -> x.dropNote(-1));
        Check.illegal("addNote(2, 0, 0)", () -> x.addNote(2, 0, 0));
        Check.illegal("addNote(-1, 0, 0)", () -> x.addNote(-1, 0, 0));
        Check.illegal("addNote(0, -1, 0)", () -> x.addNote(0, -1, 0));
        Check.illegal("addNote(0, 8, 0)", () -> x.addNote(0, 8, 0));
        Check.illegal("addNote(0, 0, 24)", () -> x.addNote(0, 0, 24));
        Check.illegal("addNote(0, 0, -1)", () -> x.addNote(0, 0, -1));
        Check.same("actions", x.size(13), 2);
        for (int i = 3; i < 60; i++) {
            Check.same("addNote", x.addNote(0, 0, 0), i);
        }
        x.undo();
        x.addNote(0, 0, 0);
        Check.same("a 61st note", x.addNote(0, 0, 0), PinBarrel.FULL);
        Check.illegal("exceptions come first", () -> x.addNote(0, 0, 24));
        Check.same("60 notes", x.size(5), 60);
        Check.same("the last one", x.dropNote(59), 59);
    }

    private static void teeth() {
        PinBarrel x = new PinBarrel();
        Check.same("addTooth", x.addTooth(23, 12), 0);
        Check.same("its PITCH", x.tooth(0, 0), 23);
        Check.same("its REST", x.tooth(0, 1), 12);
        Check.same("no pluck of it", x.tooth(0, 6), -1);
        Check.same("setRest", x.setRest(0, 1), 12);
        Check.same("the new REST", x.tooth(0, 1), 1);
        Check.same("retune", x.retune(0, 0), 23);
        Check.same("the new PITCH", x.tooth(0, 0), 0);
        Check.same("retune as it is", x.retune(0, 0), 0);
        Check.same("actions", x.size(13), 4);
        Check.outside("setRest(1, 0)", () -> x.setRest(1, 0));
        Check.outside("setRest(-1, 1)", () -> x.setRest(-1, 1));
        Check.illegal("setRest(0, 0)", () -> x.setRest(0, 0));
        Check.illegal("setRest(0, 13)", () -> x.setRest(0, 13));
        Check.outside("retune(1, 24)", () -> x.retune(1, 24));
        Check.outside("retune(-1, 0)", () -> x.retune(-1, 0));
        Check.illegal("retune(0, 24)", () -> x.retune(0, 24));
        Check.illegal("retune(0, -1)", () -> x.retune(0, -1));
        Check.illegal("addTooth(24, 1)", () -> x.addTooth(24, 1));
        Check.illegal("addTooth(-1, 1)", () -> x.addTooth(-1, 1));
        Check.illegal("addTooth(0, 0)", () -> x.addTooth(0, 0));
        Check.illegal("addTooth(0, 13)", () -> x.addTooth(0, 13));
        for (int i = 1; i < 12; i++) {
            Check.same("addTooth", x.addTooth(i, i), i);
        }
        Check.same("a 13th tooth", x.addTooth(0, 1), PinBarrel.FULL);
        Check.same("12 teeth", x.size(4), 12);
        Check.illegal("exceptions come first", () -> x.addTooth(0, 13));
        x.setPin(0, 0, 11, true);
        x.run(1);
        x.undo();
        x.undo();
        x.undo();
        x.addTooth(3, 3);
        Check.same("a tooth again: no pins", x.tooth(11, 3), 0);
        Check.same("a tooth again: no plucks", x.tooth(11, 4), 0);
        Check.same("a tooth again: no latest one", x.tooth(11, 6), -1);
    }

    private static void pins() {
        PinBarrel x = Check.box("barrel 64 2 0;tooth c 0 1;tooth d 0 1;pin 1 5 1;pin 1 6 0");
        Check.same("setPin", x.setPin(0, 63, 1, true), false);
        Check.same("there is one", x.hasPin(0, 63, 1), true);
        Check.same("no other one", x.size(6), 3);
        Check.same("setPin again", x.setPin(0, 63, 1, true), true);
        Check.same("still one", x.size(6), 3);
        Check.same("taken away", x.setPin(0, 63, 1, false), true);
        Check.same("taken away again", x.setPin(0, 63, 1, false), false);
        Check.same("none", x.size(6), 2);
        Check.same("actions", x.size(13), 4);
        Check.illegal("setPin(2, 0, 5, true)", () -> x.setPin(2, 0, 5, true));
        Check.illegal("setPin(-1, 0, 5, true)", () -> x.setPin(-1, 0, 5, true));
        Check.illegal("setPin(0, 64, 5, true)", () -> x.setPin(0, 64, 5, true));
        Check.illegal("setPin(0, -1, 0, true)", () -> x.setPin(0, -1, 0, true));
        Check.outside("setPin(0, 0, 2, false)", () -> x.setPin(0, 0, 2, false));
        Check.outside("setPin(0, 0, -1, false)", () -> x.setPin(0, 0, -1, false));
        x.setPin(0, 0, 0, true);
        Check.same("clear(1)", x.clear(1), 2);
        Check.same("the other tune's stay", x.size(6), 1);
        Check.same("clear(1) again", x.clear(1), 0);
        Check.same("actions", x.size(13), 7);
        Check.illegal("clear(2)", () -> x.clear(2));
        Check.illegal("clear(-1)", () -> x.clear(-1));
    }

    private static void laying() {
        PinBarrel x = Check.box("barrel 8 2 1;tooth c 0 4;tooth c 0 4;note 0 0 c 0;note 0 2 c 0;note 0 4 c 0;"
                + "pin 0 1 0;pin 0 0 1;pin 1 6 1");
        Check.same("lay", x.lay(0), 3);
        Check.same("on tooth 0", x.pinStep(0, 0, 0), 0);
        Check.same("on tooth 0", x.pinStep(0, 0, 1), 4);
        Check.same("on tooth 0", x.pinStep(0, 0, 2), -1);
        Check.same("on tooth 1", x.pinStep(0, 1, 0), 2);
        Check.same("on tooth 1", x.pinStep(0, 1, 1), -1);
        Check.same("the other tune's stay", x.hasPin(1, 6, 1), true);
        Check.same("it is clean", x.isClean(0), true);
        x.undo();
        Check.same("taken back", x.hasPin(0, 1, 0), true);
        Check.same("lay without notes", x.lay(1), 0);
        Check.same("its pins are gone", x.size(6), 2);
        x.setSpeed(2);
        Check.same("none", x.lay(0), PinBarrel.WRONG);
        Check.same("no action", x.size(13), 2);
        Check.illegal("lay(2)", () -> x.lay(2));
        Check.illegal("lay(-1)", () -> x.lay(-1));
    }

    private static void transposing() {
        PinBarrel x = Check.box("barrel 8 3 0;tooth c 0 1;note 0 1 d 0;note 1 2 c 0;note 0 3 b 0");
        Check.same("12 up", x.transpose(0, 12), 2);
        Check.same("the first one", x.note(0, 2), 14);
        Check.same("another tune's", x.note(1, 2), 0);
        Check.same("the highest one", x.note(2, 2), 23);
        Check.same("teeth stay", x.tooth(0, 0), 0);
        Check.same("1 up", x.transpose(0, 1), PinBarrel.WRONG);
        Check.same("nothing is changed", x.note(0, 2), 14);
        Check.same("14 down", x.transpose(0, -14), 2);
        Check.same("the lowest one", x.note(0, 2), 0);
        Check.same("1 down", x.transpose(0, -1), PinBarrel.WRONG);
        Check.same("no notes", x.transpose(2, -23), 0);
        Check.same("by 23", x.transpose(1, 23), 1);
        Check.same("by 0", x.transpose(0, 0), 2);
        Check.same("actions", x.size(13), 5);
        Check.illegal("by 24", () -> x.transpose(2, 24));
        Check.illegal("by -24", () -> x.transpose(0, -24));
        Check.illegal("transpose(3, 0)", () -> x.transpose(3, 0));
        Check.illegal("transpose(-1, 0)", () -> x.transpose(-1, 0));
    }

    private static void turning() {
        PinBarrel x = Check.box("barrel 64 2 0;tooth c 0 1;tooth d 0 1;"
                + "note 0 63 c 0;note 1 5 c 0;note 0 0 c 0;pin 0 63 0;pin 0 0 1;pin 1 5 1");
        Check.same("turn(0, 2)", x.turn(0, 2), 2);
        Check.same("around", x.pinStep(0, 0, 0), 1);
        Check.same("on", x.pinStep(0, 1, 0), 2);
        Check.same("a note around", x.note(0, 1), 1);
        Check.same("a note on", x.note(2, 1), 2);
        Check.same("another tune's note", x.note(1, 1), 5);
        Check.same("another tune's pin", x.pinStep(1, 1, 0), 5);
        Check.same("turn(0, 63)", x.turn(0, 63), 2);
        Check.same("back by one", x.pinStep(0, 0, 0), 0);
        Check.same("turn(1, 0)", x.turn(1, 0), 1);
        Check.same("reverse(0)", x.reverse(0), 2);
        Check.same("the first step", x.pinStep(0, 0, 0), 63);
        Check.same("the second step", x.pinStep(0, 1, 0), 62);
        Check.same("a note", x.note(0, 1), 63);
        Check.same("another tune's note", x.note(1, 1), 5);
        Check.same("another tune's pin", x.pinStep(1, 1, 0), 5);
        Check.same("actions", x.size(13), 4);
        Check.illegal("turn(0, 64)", () -> x.turn(0, 64));
        Check.illegal("turn(0, -1)", () -> x.turn(0, -1));
        Check.illegal("turn(2, 0)", () -> x.turn(2, 0));
        Check.illegal("turn(-1, 0)", () -> x.turn(-1, 0));
        Check.illegal("reverse(2)", () -> x.reverse(2));
        Check.illegal("reverse(-1)", () -> x.reverse(-1));
    }

    private static void settings() {
        PinBarrel x = Check.box("barrel 8 1 2;tooth c 0 3;speed 3");
        Check.same("setSpeed", x.setSpeed(4), 3);
        Check.same("the need", x.tooth(0, 2), 12);
        Check.same("setSpeed", x.setSpeed(1), 4);
        Check.same("setGap", x.setGap(3), 2);
        Check.same("setGap", x.setGap(0), 3);
        Check.same("GAP", x.size(2), 0);
        Check.same("SPEED", x.size(3), 1);
        Check.same("actions", x.size(13), 4);
        Check.illegal("setSpeed(0)", () -> x.setSpeed(0));
        Check.illegal("setSpeed(5)", () -> x.setSpeed(5));
        Check.illegal("setGap(-1)", () -> x.setGap(-1));
        Check.illegal("setGap(4)", () -> x.setGap(4));
    }
}
