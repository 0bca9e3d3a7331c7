/** Promises 52 and 54 to 56: wear, writeTooth, writeStep, outputByte. */
final class OutputTest {
    public static void main(String[] args) {
        PinBarrel x = Check.box("barrel 8 2 0;tooth c 0 1;tooth ais 1 1;tooth d 0 1;"
                + "note 0 3 gis 1;note 0 3 c 0;note 1 3 e 0;note 0 3 gis 1;note 0 3 gis 0;"
                + "pin 0 0 0;pin 1 1 0;pin 0 7 1;pin 0 3 1");
        Check.same("wear(0)", x.wear(0), 2.0 / 4.0);
        Check.same("wear(2)", x.wear(2), 0.0);
        x.setPin(1, 0, 2, true);
        x.setPin(1, 1, 2, true);
        x.setPin(1, 2, 2, true);
        Check.same("wear(2)", x.wear(2), 3.0 / 7.0);
        Check.outside("wear(3)", () -> x.wear(3));
        Check.outside("wear(-1)", () -> x.wear(-1));
        written(x, x.writeTooth(0, 1), "ais1:...o...o");
        written(x, x.writeTooth(1, 0), "c0:.o......");
        written(x, x.writeStep(0, 3), "c0+gis0+gis1+gis1");
        written(x, x.writeStep(1, 3), "e0");
        written(x, x.writeStep(1, 4), "");
        written(x, x.writeTooth(1, 1), "ais1:........");
        Check.illegal("writeTooth(2, 9)", () -> x.writeTooth(2, 9));
        Check.illegal("writeTooth(-1, 0)", () -> x.writeTooth(-1, 0));
        Check.outside("writeTooth(0, 3)", () -> x.writeTooth(0, 3));
        Check.outside("writeTooth(0, -1)", () -> x.writeTooth(0, -1));
        Check.illegal("writeStep(2, 0)", () -> x.writeStep(2, 0));
        Check.illegal("writeStep(-1, 0)", () -> x.writeStep(-1, 0));
        Check.illegal("writeStep(0, 8)", () -> x.writeStep(0, 8));
        Check.illegal("writeStep(0, -1)", () -> x.writeStep(0, -1));
        written(x, 13, "ais1:........");
        Check.same("outputByte(-1)", x.outputByte(-1), -1);
        Check.same("outputByte(0)", x.outputByte(0), 97);
        longest();
        Check.end();
    }

    private static void written(PinBarrel x, int length, String want) {
        Check.same("the output", Check.output(x, length), want);
    }

    private static void longest() {
        PinBarrel x = Check.box("barrel 64 1 0");
        String want = "";
        for (int i = 0; i < 60; i++) {
            x.addNote(0, 63, 22);
            want += i == 0 ? "ais1" : "+ais1";
        }
        written(x, x.writeStep(0, 63), want);
        Check.same("wear without pins", x.addTooth(0, 1) + x.wear(0), 0.0);
    }
}
