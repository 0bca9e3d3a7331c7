/** Promises 31 to 36, 50, 51 and 53: playing, and what would be heard. */
final class PlayTest {
    private static final String TEXT = "barrel 8 2 0;tooth c 0 3;tooth d 0 1;"
            + "pin 0 0 0;pin 0 0 1;pin 0 2 0;pin 0 5 0;pin 1 3 1;pin 1 4 0";

    public static void main(String[] args) {
        predictions();
        shifting();
        hearing();
        bestTunes();
        speeds();
        manyTicks();
        Check.end();
    }

    private static void predictions() {
        PinBarrel x = Check.box(TEXT);
        Check.same("ringsIn(1)", x.ringsIn(1), 2);
        Check.same("ringsIn(8)", x.ringsIn(8), 3);
        Check.same("buzzesIn(2)", x.buzzesIn(2), 0);
        Check.same("buzzesIn(3)", x.buzzesIn(3), 1);
        Check.same("ringsIn(16)", x.ringsIn(16), 6);
        Check.same("buzzesIn(16)", x.buzzesIn(16), 2);
        Check.same("ringsIn(200)", x.ringsIn(200), 75);
        Check.same("buzzesIn(200)", x.buzzesIn(200), 25);
        Check.same("firstBuzz()", x.firstBuzz(), 2);
        Check.same("nextTooth()", x.nextTooth(), 0);
        Check.same("no tick was passed", x.size(9), 0);
        Check.same("no pluck was counted", x.size(10), 0);
        Check.same("no action", x.size(13), 0);
        Check.illegal("ringsIn(0)", () -> x.ringsIn(0));
        Check.illegal("ringsIn(201)", () -> x.ringsIn(201));
        Check.illegal("buzzesIn(0)", () -> x.buzzesIn(0));
        Check.illegal("buzzesIn(201)", () -> x.buzzesIn(201));
        x.setRest(0, 2);
        Check.same("no buzz in 3 * STEPS ticks", x.firstBuzz(), -1);
        x.clear(0);
        Check.same("no tooth in STEPS ticks", x.nextTooth(), -1);
        x.setPin(0, 7, 1, true);
        Check.same("a tooth in the last of STEPS ticks", x.nextTooth(), 1);
    }

    private static void shifting() {
        PinBarrel x = Check.box(TEXT);
        Check.same("purity without plucks", x.purity(), 1.0f);
        Check.same("run(3)", x.run(3), 3);
        Check.same("purity", x.purity(), 2.0f / 3.0f);
        Check.same("rings since", x.ringsIn(8), 3);
        Check.same("buzzes since", x.buzzesIn(8), 1);
        Check.same("firstBuzz()", x.firstBuzz(), 7);
        Check.same("nextTooth()", x.nextTooth(), 0);
        Check.same("shift(1)", x.shift(1), 0);
        Check.same("the step stays", x.size(8), 3);
        Check.same("nextTooth()", x.nextTooth(), 1);
        Check.same("firstBuzz()", x.firstBuzz(), 1);
        Check.same("shift(1) again", x.shift(1), 1);
        Check.same("it counts too", x.size(13), 3);
        Check.illegal("shift(2)", () -> x.shift(2));
        Check.illegal("shift(-1)", () -> x.shift(-1));
        Check.illegal("run(0)", () -> x.run(0));
        Check.illegal("run(201)", () -> x.run(201));
        Check.same("wrong calls do not", x.size(13), 3);
        Check.same("run(13) around", x.run(13), 4);
        Check.same("the step around", x.size(8), 0);
        Check.same("the ticks", x.size(9), 16);
        Check.same("buzzes", x.size(11), 2);
    }

    private static void hearing() {
        PinBarrel x = Check.box(TEXT);
        Check.same("run(16)", x.run(16), 8);
        int[][] want = {{0, 0, 0, 0}, {0, 1, 2, 0}, {2, 0, 0, 1}, {5, 0, 0, 0},
            {8, 0, 0, 0}, {8, 1, 2, 0}, {10, 0, 0, 1}, {13, 0, 0, 0}};
        x.retune(0, 7);
        for (int index = 0; index < want.length; index++) {
            for (int what = 0; what < 4; what++) {
                Check.same("heard(" + index + ", " + what + ")", x.heard(index, what), want[index][what]);
            }
        }
        Check.same("heard(8, 0)", x.heard(8, 0), -1);
        Check.same("heard(-1, 0)", x.heard(-1, 0), -1);
        Check.same("run(200)", x.run(200), 100);
        Check.same("known no more", x.heard(7, 0), -1);
        Check.same("the oldest known one", x.heard(8, 0), 16);
        Check.same("its PITCH then", x.heard(8, 2), 7);
        Check.same("the latest one", x.heard(107, 0), 213);
        Check.same("none yet", x.heard(108, 0), -1);
        Check.same("plucks of a tooth", x.tooth(0, 4), 81);
        Check.same("buzzes of a tooth", x.tooth(0, 5), 27);
        Check.same("its latest pluck", x.tooth(0, 6), 213);
        x.undo();
        Check.same("known again", x.heard(7, 0), 13);
        Check.same("unknown again", x.heard(8, 0), -1);
        allKept();
        Check.illegal("heard(0, 4)", () -> x.heard(0, 4));
        Check.illegal("heard(99, -1)", () -> x.heard(99, -1));
    }

    /** All of the latest 100 plucks come back with undo and with a snapshot. */
    private static void allKept() {
        PinBarrel x = Check.box("barrel 8 1 0;tooth c 0 1;pin 0 0 0;pin 0 1 0;pin 0 2 0;pin 0 3 0;"
                + "pin 0 4 0;pin 0 5 0;pin 0 6 0;pin 0 7 0");
        x.run(130);
        x.saveSnapshot(0);
        x.run(60);
        x.undo();
        kept(x);
        x.run(60);
        x.restoreSnapshot(0);
        kept(x);
    }

    private static void kept(PinBarrel x) {
        Check.same("heard(29, 0)", x.heard(29, 0), -1);
        for (int index = 30; index < 130; index++) {
            Check.same("heard(" + index + ", 0)", x.heard(index, 0), index);
        }
        Check.same("heard(130, 0)", x.heard(130, 0), -1);
    }

    private static void bestTunes() {
        PinBarrel x = Check.box(TEXT);
        Check.same("the other tune is better", x.bestTune(), 1);
        x.run(3);
        Check.same("both are as good", x.bestTune(), 0);
        x.run(2);
        Check.same("after the near one the other is better", x.bestTune(), 1);
        Check.same("no shift", x.size(7), 0);
        x.shift(1);
        Check.same("from wherever it is", x.bestTune(), 1);
        x.setRest(0, 1);
        Check.same("without buzzes", x.bestTune(), 0);
    }

    private static void speeds() {
        PinBarrel x = Check.box(TEXT);
        x.run(6);
        Check.same("the next one rings", x.ringsIn(3), 2);
        x.setSpeed(2);
        Check.same("the need as it is now", x.ringsIn(3), 1);
        Check.same("the need as it is now", x.tooth(0, 7), 5);
        Check.same("run(3)", x.run(3), 2);
        Check.same("buzzes", x.size(11), 2);
        Check.same("both count as plucked", x.tooth(0, 6), 8);
    }

    private static void manyTicks() {
        PinBarrel x = new PinBarrel();
        for (int i = 0; i < 500; i++) {
            x.run(200);
        }
        Check.same("100000 ticks", x.size(9), 100000);
        Check.same("one more", x.run(1), PinBarrel.FULL);
        Check.same("nothing is changed", x.size(9), 100000);
        Check.same("it is no action", x.undo(), 7);
        Check.same("201 too many", x.run(199), 0);
        Check.same("two more", x.run(2), PinBarrel.FULL);
        Check.same("one more", x.run(1), 0);
        Check.same("100000 ticks", x.size(9), 100000);
    }
}
