/** Promises 1 to 5: a new object, append, load, loadError, loadStatement. */
final class DescriptionTest {
    private static final String START = "barrel 8 1 0";

    public static void main(String[] args) {
        newObject();
        append();
        rightTexts();
        firstStatement();
        otherStatements();
        places();
        limits();
        whatLoadChanges();
        Check.end();
    }

    private static void newObject() {
        PinBarrel x = new PinBarrel();
        int[] sizes = {8, 1, 0, 1, 0, 0, 0, 0, 0, 0, 0, 0, 0, 0};
        for (int what = 0; what < sizes.length; what++) {
            Check.same("new: size(" + what + ")", x.size(what), sizes[what]);
        }
        Check.same("new: append(0)", x.append(0), 0);
        Check.same("new: outputByte(0)", x.outputByte(0), -1);
        Check.same("new: loadError()", x.loadError(), 0);
        Check.same("new: loadStatement()", x.loadStatement(), -1);
        Check.same("new: restoreSnapshot(0)", x.restoreSnapshot(0), -1);
        Check.same("new: restoreSnapshot(1)", x.restoreSnapshot(1), -1);
        Check.same("NONE", PinBarrel.NONE, -1);
        Check.same("FULL", PinBarrel.FULL, -2);
        Check.same("WRONG", PinBarrel.WRONG, -3);
    }

    private static void append() {
        PinBarrel x = new PinBarrel();
        Check.same("no byte", x.append(0L), 0);
        Check.same("one byte", x.append((long) 'b' << 56), 1);
        Check.same("zeros between are left out", x.append(0x0061007200720065L), 5);
        Check.same("eight bytes", x.append(0x6c20382031203020L), 13);
        Check.same("the bytes in their order", x.load(), 0);
        Check.same("the buffer is empty after load", x.append(0L), 0);
        for (int i = 1; i <= 87; i++) {
            Check.same("filling", x.append(-1L), 8 * i);
        }
        Check.same("to 699", x.append(0x0101010000000000L), 699);
        Check.same("701 would be too long", x.append(0x0101L), PinBarrel.FULL);
        Check.same("FULL changes nothing", x.append(0L), 699);
        Check.same("700", x.append(0xff00L), 700);
        Check.same("0 bytes have room in a full buffer", x.append(0L), 700);
        Check.same("701", x.append(1L), PinBarrel.FULL);
        Check.same("a byte above 127", x.load(), -100);
    }

    private static void rightTexts() {
        right(START, 0);
        right("barrel8 1 0", 0);
        right("  barrel  008   1 0  ", 0);
        right("barrel 64 3 3 ; speed 4;speed 2", 0);
        right(START + ";note0 7b1;note 0 0 c 0 ; note 0 0 c 0", 3);
        right(START + ";tooth cis1 12;tooth ais 0 1;pin 0 7 1;pin0 7 1;pin0 0 0", 0);
        right(START + ";tooth" + " ".repeat(300) + "gis 1 1", 0);
        PinBarrel x = Check.box("barrel 64 3 2;speed 4;speed 3;tooth b 1 12;note 2 63 ais 1;pin 2 63 0");
        int[] sizes = {64, 3, 2, 3, 1, 1, 1};
        for (int what = 0; what < sizes.length; what++) {
            Check.same("loaded: size(" + what + ")", x.size(what), sizes[what]);
        }
        Check.same("PITCH of b 1", x.tooth(0, 0), 23);
        Check.same("REST", x.tooth(0, 1), 12);
        Check.same("PITCH of ais 1", x.note(0, 2), 22);
        Check.same("a pin", x.hasPin(2, 63, 0), true);
        String[] names = {"c", "cis", "d", "dis", "e", "f", "fis", "g", "gis", "a", "ais", "b"};
        for (int i = 0; i < 12; i++) {
            Check.same("PITCH of " + names[i], Check.box(START + ";tooth " + names[i] + " 0 1").tooth(0, 0), i);
        }
        Check.same("SPEED without one", Check.box(START).size(3), 1);
    }

    private static void firstStatement() {
        wrong("", 0, 1, 0);
        wrong("   ", 3, 1, 0);
        wrong(";", 0, 1, 0);
        wrong("8", 0, 1, 0);
        wrong(" speed 1", 1, 1, 0);
        wrong("barre 8 1 0", 0, 1, 0);
        wrong("barrell 8 1 0", 0, 1, 0);
        wrong("barrelz 8 1 0", 0, 1, 0);
        wrong("barrel{8 1 0", 6, 1, 0);
        wrong("barrel`8 1 0", 6, 1, 0);
        wrong("barrel:8 1 0", 6, 1, 0);
        wrong("barrel 8/1 0", 8, 1, 0);
        wrong("Barrel 8 1 0", 0, 1, 0);
        wrong("barrel", 6, 1, 0);
        wrong("barrel 8 1", 10, 1, 0);
        wrong("barrel 8 1  ", 12, 1, 0);
        wrong("barrel 8 1;", 10, 1, 0);
        wrong("barrel 7 1 0", 7, 2, 0);
        wrong("barrel 65 1 0", 7, 2, 0);
        wrong("barrel 81 0", 7, 2, 0);
        wrong("barrel 0099999999999999999999 1 0", 7, 2, 0);
        wrong("barrel 4294967304 1 0", 7, 2, 0);
        wrong("barrel 8 0 0", 9, 2, 0);
        wrong("barrel 8 4 0", 9, 2, 0);
        wrong("barrel 8 1 4", 11, 2, 0);
        wrong("barrel 8 1 0 0", 13, 1, 0);
        wrong("barrel 8 1 0x", 12, 1, 0);
        wrong("barrel x 1 0", 7, 1, 0);
        wrong("barrel 8 x 0", 9, 1, 0);
        wrong("barrel\t8 1 0", 6, 1, 0);
        wrong("barrel 8 1 -1", 11, 1, 0);
    }

    private static void otherStatements() {
        wrong(START + ";", 13, 1, 1);
        wrong(START + "; ", 14, 1, 1);
        wrong(START + ";;speed 1", 13, 1, 1);
        wrong(START + ";barrel 8 1 0", 13, 1, 1);
        wrong(START + ";pins 0 0 0", 13, 1, 1);
        wrong(START + ";speed 1;3", 21, 1, 2);
        wrong(START + ";speed 0", 19, 2, 1);
        wrong(START + ";speed 5", 19, 2, 1);
        wrong(START + ";speed;", 18, 1, 1);
        wrong(START + ";tooth h 0 1", 19, 1, 1);
        wrong(START + ";tooth cisx 0 1", 19, 1, 1);
        wrong(START + ";tooth cz 0 1", 19, 1, 1);
        wrong(START + ";tooth za 0 1", 19, 1, 1);
        wrong(START + ";tooth 0 0 1", 19, 1, 1);
        wrong(START + ";tooth c 2 1", 21, 2, 1);
        wrong(START + ";tooth c01", 22, 1, 1);
        wrong(START + ";tooth c12", 20, 2, 1);
        wrong(START + ";tooth c 0 0", 23, 2, 1);
        wrong(START + ";tooth c 0 13", 23, 2, 1);
        wrong(START + ";tooth c 0", 22, 1, 1);
        wrong(START + ";note 1 0 c 0", 18, 2, 1);
        wrong(START + ";note 0 8 c 0", 20, 2, 1);
        wrong(START + ";note 0 0 0", 22, 1, 1);
        wrong(START + ";note 0 0 des 0", 22, 1, 1);
        wrong(START + ";note 0 0 d 2", 24, 2, 1);
        wrong(START + ";pin 0 0 0", 21, 2, 1);
        wrong(START + ";tooth c 0 1;pin 0 0 1;tooth c 0 1", 33, 2, 2);
        wrong(START + ";tooth c 0 1;pin 1 0 0", 29, 2, 2);
        wrong(START + ";tooth c 0 1;pin 0 8 0", 31, 2, 2);
    }

    private static void places() {
        wrong(START + " ;  speed  9", 23, 2, 1);
        wrong(START + ";speed 2 ;speed 2 speed", 30, 1, 2);
        wrong(START + ";speed 2.", 20, 1, 1);
        wrong(START + ";speed 9 9;", 19, 2, 1);
    }

    private static void limits() {
        String teeth = "";
        for (int i = 0; i < 12; i++) {
            teeth += ";tooth c 0 1";
        }
        right(START + teeth, 0);
        int end = START.length() + teeth.length();
        wrong(START + teeth + "; tooth c 0 1", end + 2, 3, 13);
        wrong(START + teeth + ";tooth", end + 1, 3, 13);
        wrong(START + teeth + ";tooth h 9 99", end + 1, 3, 13);
        wrong(START + teeth + ";teeth", end + 1, 1, 13);
        String notes = "";
        for (int i = 0; i < 60; i++) {
            notes += ";note0 0c0";
        }
        right(START + notes, 60);
        end = START.length() + notes.length();
        wrong(START + notes + ";note 7 0 c 0", end + 1, 3, 61);
        wrong(START + notes + ";note", end + 1, 3, 61);
        wrong(START + notes + ";speed 7", end + 7, 2, 61);
    }

    private static void whatLoadChanges() {
        PinBarrel x = Check.box("barrel 9 2 1;tooth c 0 5;note 1 3 c 0;pin 1 3 0;pin 0 0 0");
        x.shift(1);
        x.run(5);
        x.writeTooth(1, 0);
        x.saveSnapshot(1);
        Check.same("a wrong text", Check.load(x, "barrel 8 1 0;tooth"), -118);
        Check.same("loadError()", x.loadError(), 1);
        Check.same("loadStatement()", x.loadStatement(), 1);
        int[] sizes = {9, 2, 1, 1, 1, 1, 2, 1, 5, 5, 1, 0, 0, 2};
        for (int what = 0; what < sizes.length; what++) {
            Check.same("after a wrong text: size(" + what + ")", x.size(what), sizes[what]);
        }
        Check.same("the buffer is empty after an error", x.append(0L), 0);
        Check.same("a right text", Check.load(x, "barrel 8 1 0;tooth d 0 1"), 0);
        Check.same("loadError()", x.loadError(), 0);
        Check.same("loadStatement()", x.loadStatement(), -1);
        int[] anew = {8, 1, 0, 1, 1, 0, 0, 0, 0, 0, 0, 0, 0, 0};
        for (int what = 0; what < anew.length; what++) {
            Check.same("after a right text: size(" + what + ")", x.size(what), anew[what]);
        }
        Check.same("no plucks of a tooth", x.tooth(0, 4), 0);
        Check.same("no latest pluck of a tooth", x.tooth(0, 6), -1);
        Check.same("no pluck is known", x.heard(0, 0), -1);
        Check.same("nothing can be taken back", x.undo(), -1);
        Check.same("the output stays", x.outputByte(0), 'c');
        Check.same("the snapshots stay", x.restoreSnapshot(1), 2);
        Check.same("an empty text", x.load(), -100);
        Check.same("loadError()", x.loadError(), 1);
        Check.same("loadStatement()", x.loadStatement(), 0);
    }

    private static void right(String text, int notes) {
        PinBarrel x = new PinBarrel();
        Check.same("load() of \"" + text + "\"", Check.load(x, text), notes);
        Check.same("loadError() of \"" + text + "\"", x.loadError(), 0);
        Check.same("loadStatement() of \"" + text + "\"", x.loadStatement(), -1);
    }

    private static void wrong(String text, int place, int kind, int statement) {
        PinBarrel x = new PinBarrel();
        Check.same("load() of \"" + text + "\"", Check.load(x, text), -100 - place);
        Check.same("loadError() of \"" + text + "\"", x.loadError(), kind);
        Check.same("loadStatement() of \"" + text + "\"", x.loadStatement(), statement);
    }
}
