/** The edges that the document names for playing: section 5 and promises 31 to 36, 50, 51 and 53. */
final class PlayEdgeTest {
    public static void main(String[] args) {
        around();
        needExactly();
        needAsItIsNow();
        buzzesCountToo();
        byTooth();
        ofThisTune();
        latestHundred();
        heardPlaces();
        pitchThen();
        ticksPredicted();
        firstBuzzes();
        nextTeeth();
        bestTunes();
        shifting();
        running();
        tickLimit();
        purity();
        Check.end();
    }

    private static void around() {
        Check.sentence("5: then the barrel comes to the next step (behind the last one step 0)");
        for (int steps : new int[] {8, 9, 64}) {
            PinBarrel x = Check.box("barrel " + steps + " 1 0;tooth c 0 1;pin 0 " + (steps - 1) + " 0;pin 0 0 0");
            Check.same("step 0", x.run(1), 1);
            Check.same("the steps between", x.run(steps - 2), 0);
            Check.same("at the last step", x.size(8), steps - 1);
            Check.same("the last step", x.run(1), 1);
            Check.same("at step 0", x.size(8), 0);
            Check.same("step 0 again", x.run(1), 1);
            Check.same("at step 1", x.size(8), 1);
            x.run(200);
            Check.same("after 200 more", x.size(8), (201 % steps));
        }
    }

    private static void needExactly() {
        Check.sentence("5: it rings if it was never plucked, or at least its need ticks ago; otherwise it buzzes");
        for (int way = 1; way <= 8; way++) {
            for (int from = 0; from < 8; from++) {
                PinBarrel x = Check.box("barrel 8 1 0;tooth c 0 12;pin 0 " + from + " 0");
                x.run(from + 1);
                Check.same("the first one rings", x.heard(0, 3), 0);
                x.setPin(0, (from + way) % 8, 0, true);
                x.setRest(0, way);
                Check.same("as many ticks as the need: ringsIn", x.ringsIn(way), 1);
                Check.same("as many ticks as the need: buzzesIn", x.buzzesIn(way), 0);
                x.run(way);
                Check.same("as many ticks as the need", x.heard(1, 3), 0);
                x.undo();
                x.setRest(0, way + 1);
                Check.same("one tick less: ringsIn", x.ringsIn(way), 0);
                Check.same("one tick less: buzzesIn", x.buzzesIn(way), 1);
                x.run(way);
                Check.same("one tick less", x.heard(1, 3), 1);
            }
        }
        PinBarrel y = Check.box("barrel 8 1 0;speed 4;tooth c 0 12;pin 0 0 0");
        y.run(48);
        Check.same("the greatest need", y.tooth(0, 5), 5);
        y.setPin(0, 0, 0, false);
        y.run(40);
        y.setPin(0, 0, 0, true);
        y.run(1);
        Check.same("48 ticks ago", y.heard(6, 3), 0);
    }

    private static void needAsItIsNow() {
        Check.sentence("5: its need (as it is now)");
        PinBarrel x = Check.box("barrel 8 1 0;tooth c 0 1;pin 0 0 0;pin 0 4 0");
        x.run(1);
        x.setSpeed(4);
        x.run(4);
        Check.same("by a SPEED set behind the pluck", x.heard(1, 3), 0);
        x.setRest(0, 2);
        x.run(4);
        Check.same("by a REST set behind the pluck", x.heard(2, 3), 1);
        x.setSpeed(2);
        x.run(4);
        Check.same("by a SPEED set behind the pluck", x.heard(3, 3), 0);
    }

    private static void buzzesCountToo() {
        Check.sentence("5: both count as plucked");
        PinBarrel x = Check.box("barrel 8 1 0;tooth c 0 4;pin 0 0 0;pin 0 3 0;pin 0 6 0");
        x.run(7);
        Check.same("three ticks after it rang", x.heard(1, 3), 1);
        Check.same("three ticks after it buzzed", x.heard(2, 3), 1);
        Check.same("plucks", x.size(10), 3);
        Check.same("buzzes", x.size(11), 2);
        Check.same("the latest one", x.tooth(0, 6), 6);
    }

    private static void byTooth() {
        Check.sentence("5: each tooth (by number) that has a pin of this tune at this step is plucked");
        PinBarrel x = Check.box("barrel 8 1 0" + ";tooth c 0 1".repeat(12));
        for (int tooth = 11; tooth >= 0; tooth--) {
            x.setPin(0, 0, tooth, true);
        }
        Check.same("all of them", x.run(1), 12);
        for (int index = 0; index < 12; index++) {
            Check.same("pluck " + index, x.heard(index, 1), index);
            Check.same("its tick", x.heard(index, 0), 0);
        }
        Check.same("its plucks alone", x.tooth(11, 4), 1);
    }

    private static void ofThisTune() {
        Check.sentence("5: a pin of this tune");
        PinBarrel x = Check.box("barrel 8 3 0;tooth c 0 1;tooth d 0 1;pin 1 0 0;pin 2 0 1;pin 0 1 1");
        Check.same("tune 0", x.run(1), 0);
        Check.same("tune 0", x.run(1), 1);
        x.run(6);
        x.shift(1);
        Check.same("tune 1", x.run(8), 1);
        Check.same("its tooth", x.heard(1, 1), 0);
        x.shift(2);
        Check.same("tune 2", x.run(8), 1);
        Check.same("its tooth", x.heard(2, 1), 1);
        Check.sentence("5: at first at step 0 and shifted to tune 0; ticks are counted from 0");
        Check.load(x, "barrel 8 2 0;tooth c 0 1;pin 0 0 0");
        Check.same("step", x.size(8), 0);
        Check.same("tune", x.size(7), 0);
        Check.same("ticks", x.size(9), 0);
        x.run(1);
        Check.same("the first tick", x.heard(0, 0), 0);
    }

    private static PinBarrel everyTick() {
        PinBarrel x = Check.box("barrel 8 1 0;tooth c 0 1");
        for (int step = 0; step < 8; step++) {
            x.setPin(0, step, 0, true);
        }
        return x;
    }

    private static void latestHundred() {
        Check.sentence("5: the latest 100 plucks, numbered from 0 for the first one since load()");
        PinBarrel x = everyTick();
        x.run(100);
        Check.same("the first of 100", x.heard(0, 0), 0);
        Check.same("the last of 100", x.heard(99, 0), 99);
        Check.same("no 101st", x.heard(100, 0), PinBarrel.NONE);
        x.run(1);
        Check.sentence("Promise 31: NONE if it is known no more");
        Check.same("the first of 101", x.heard(0, 0), PinBarrel.NONE);
        Check.same("the second of 101", x.heard(1, 0), 1);
        Check.same("the last of 101", x.heard(100, 0), 100);
        x.run(200);
        Check.same("the 201st of 301", x.heard(200, 0), PinBarrel.NONE);
        Check.same("the 202nd of 301", x.heard(201, 0), 201);
        Check.same("the last of 301", x.heard(300, 0), 300);
        Check.same("behind it", x.heard(301, 0), PinBarrel.NONE);
        x.undo();
        Check.same("101 again: the first one", x.heard(0, 0), PinBarrel.NONE);
        Check.same("101 again: the second one", x.heard(1, 0), 1);
        x.undo();
        Check.same("100 again: the first one", x.heard(0, 0), 0);
        Check.same("100 again: behind the last one", x.heard(100, 0), PinBarrel.NONE);
        Check.sentence("Promises 57 and 59: all of the latest 100 plucks come back");
        PinBarrel y = everyTick();
        y.run(130);
        y.run(99);
        y.undo();
        hundredFrom30(y);
        PinBarrel z = everyTick();
        z.run(130);
        z.saveSnapshot(1);
        z.run(99);
        z.restoreSnapshot(1);
        hundredFrom30(z);
    }

    private static void hundredFrom30(PinBarrel x) {
        Check.same("heard(29, 0)", x.heard(29, 0), PinBarrel.NONE);
        for (int index = 30; index < 130; index++) {
            Check.same("heard(" + index + ", 0)", x.heard(index, 0), index);
        }
        Check.same("heard(130, 0)", x.heard(130, 0), PinBarrel.NONE);
    }

    private static void heardPlaces() {
        Check.sentence("Promise 31: NONE if there is no such pluck");
        for (int what = 0; what < 4; what++) {
            Check.same("none yet", new PinBarrel().heard(0, what), PinBarrel.NONE);
            PinBarrel x = everyTick();
            x.run(1);
            Check.same("behind the only one", x.heard(1, what), PinBarrel.NONE);
            Check.same("-1", x.heard(-1, what), PinBarrel.NONE);
            Check.same("the least number", x.heard(Integer.MIN_VALUE, what), PinBarrel.NONE);
            Check.same("the greatest number", x.heard(Integer.MAX_VALUE, what), PinBarrel.NONE);
            x.run(120);
            Check.same("-1 with many", x.heard(-1, what), PinBarrel.NONE);
            Check.same("-100 with many", x.heard(-100, what), PinBarrel.NONE);
            Check.load(x, "barrel 8 1 0;tooth c 0 1;pin 0 0 0");
            Check.same("none since load()", x.heard(0, what), PinBarrel.NONE);
        }
    }

    private static void pitchThen() {
        Check.sentence("Promise 31: 2, the PITCH that the tooth had then");
        PinBarrel x = everyTick();
        int[] pitches = {0, 23, 11, 0};
        for (int i = 0; i < 4; i++) {
            x.retune(0, pitches[i]);
            x.run(1);
        }
        x.retune(0, 5);
        for (int i = 0; i < 4; i++) {
            Check.same("pluck " + i, x.heard(i, 2), pitches[i]);
        }
    }

    private static void ticksPredicted() {
        Check.sentence("Promises 32 and 33: in some ticks, 1 to 200");
        PinBarrel x = Check.box("barrel 8 1 0;tooth c 0 8;pin 0 7 0");
        Check.same("rings in 7", x.ringsIn(7), 0);
        Check.same("rings in 8", x.ringsIn(8), 1);
        Check.same("rings in 199", x.ringsIn(199), 24);
        Check.same("rings in 200", x.ringsIn(200), 25);
        x.setRest(0, 9);
        Check.same("buzzes in 15", x.buzzesIn(15), 0);
        Check.same("buzzes in 16", x.buzzesIn(16), 1);
        Check.same("buzzes in 199", x.buzzesIn(199), 23);
        Check.same("buzzes in 200", x.buzzesIn(200), 24);
        Check.same("rings in 200", x.ringsIn(200), 1);
        x.run(8);
        Check.same("from now on: rings in 200", x.ringsIn(200), 0);
        Check.same("from now on: buzzes in 200", x.buzzesIn(200), 25);
        x.run(16);
        Check.same("behind buzzes: buzzes in 8", x.buzzesIn(8), 1);
        Check.same("behind buzzes: buzzes in 7", x.buzzesIn(7), 0);
        x.setRest(0, 8);
        Check.same("behind buzzes: rings in 8", x.ringsIn(8), 1);
        PinBarrel y = everyTick();
        Check.same("one tick", y.ringsIn(1), 1);
        Check.same("no teeth: rings", new PinBarrel().ringsIn(200), 0);
        Check.same("no teeth: buzzes", new PinBarrel().buzzesIn(200), 0);
    }

    private static void firstBuzzes() {
        Check.sentence("Promise 34: 0 for the next tick, and so on");
        PinBarrel x = Check.box("barrel 8 2 0;tooth c 0 9;pin 0 0 0");
        for (int tick = 0; tick < 8; tick++) {
            Check.same("the second time around", x.firstBuzz(), 8 - tick);
            x.run(1);
        }
        Check.same("the next tick", x.firstBuzz(), 0);
        x.run(1);
        Check.same("around again", x.firstBuzz(), 7);
        for (int steps : new int[] {8, 64}) {
            PinBarrel y = Check.box("barrel " + steps + " 1 0;tooth c 0 2;pin 0 0 0;pin 0 " + (steps - 1) + " 0");
            Check.same("over the last step", y.firstBuzz(), steps);
            y.run(1);
            y.setPin(0, 0, 0, false);
            y.setRest(0, 12);
            y.setSpeed(4);
            Check.same("alone around", y.firstBuzz(), steps == 8 ? 6 : PinBarrel.NONE);
        }
        PinBarrel late = Check.box("barrel 48 1 0;speed 4;tooth c 0 12;pin 0 47 0;tooth d 0 12");
        Check.same("a need of STEPS", late.firstBuzz(), PinBarrel.NONE);
        PinBarrel later = Check.box("barrel 47 1 0;speed 4;tooth c 0 12;pin 0 46 0");
        Check.same("a need of STEPS + 1", later.firstBuzz(), 93);
        Check.sentence("Promise 34: NONE if there is none in the next 3 * STEPS ticks");
        Check.same("no teeth", new PinBarrel().firstBuzz(), PinBarrel.NONE);
        Check.same("it always rings", everyTick().firstBuzz(), PinBarrel.NONE);
        x.shift(1);
        Check.same("a tune without pins", x.firstBuzz(), PinBarrel.NONE);
    }

    private static void nextTeeth() {
        Check.sentence("Promise 35: the tooth that would be plucked next, of several in one tick the lowest one");
        for (int steps : new int[] {8, 64}) {
            PinBarrel x = Check.box("barrel " + steps + " 2 0" + ";tooth c 0 1".repeat(12) + ";pin 0 " + (steps - 1)
                    + " 11;pin 1 0 3");
            Check.same("in the last of STEPS ticks", x.nextTooth(), 11);
            x.run(steps - 1);
            Check.same("in the next tick", x.nextTooth(), 11);
            x.run(1);
            Check.same("around", x.nextTooth(), 11);
            x.setPin(0, 0, 5, true);
            x.setPin(0, 0, 4, true);
            Check.same("the lowest one", x.nextTooth(), 4);
            x.run(1);
            Check.same("the one before is over", x.nextTooth(), 11);
            x.setPin(0, steps - 1, 11, false);
            Check.same("the step just over comes last", x.nextTooth(), 4);
            x.shift(1);
            Check.same("the other tune, over the last step", x.nextTooth(), 3);
            x.clear(1);
            Check.sentence("Promise 35: NONE if there is none in the next STEPS ticks");
            Check.same("no pins of the tune", x.nextTooth(), PinBarrel.NONE);
        }
        Check.same("no teeth", new PinBarrel().nextTooth(), PinBarrel.NONE);
        PinBarrel y = Check.box("barrel 8 1 0;tooth c 0 1;tooth c 0 1;pin 0 1 1;pin 0 1 0;pin 0 0 1");
        Check.same("the nearer one, not the lower one", y.nextTooth(), 1);
        y.run(1);
        Check.same("the lowest of all", y.nextTooth(), 0);
    }

    private static void bestTunes() {
        Check.sentence("Promise 36: so that the fewest plucks buzz in the next STEPS ticks");
        PinBarrel x = Check.box("barrel 8 3 0;tooth c 0 9;pin 0 0 0;pin 1 0 0;pin 1 7 0;pin 2 3 0;pin 2 4 0;pin 2 5 0");
        Check.same("a buzz in the tick behind them does not count", x.bestTune(), 0);
        x.setPin(0, 7, 0, true);
        x.clear(2);
        Check.same("a buzz in the last of them counts", x.bestTune(), 2);
        Check.sentence("Promise 36: of several the lowest one");
        x.setPin(2, 0, 0, true);
        x.setPin(2, 1, 0, true);
        Check.same("one buzz with each", x.bestTune(), 0);
        x.setPin(0, 3, 0, true);
        Check.same("two with tune 0", x.bestTune(), 1);
        Check.same("one tune alone", new PinBarrel().bestTune(), 0);
        Check.sentence("Promise 36: shifted now, at its step");
        PinBarrel y = Check.box("barrel 8 2 0;tooth c 0 8;pin 0 0 0;pin 1 7 0");
        y.run(1);
        Check.same("from step 1 tune 0 comes 8 ticks on", y.bestTune(), 0);
        y.shift(1);
        Check.same("whatever the tune is", y.bestTune(), 0);
        y.setPin(0, 6, 0, true);
        Check.same("one buzz and then another one", y.bestTune(), 1);
        PinBarrel z = Check.box("barrel 8 2 0;tooth c 0 8;pin 0 0 0;pin 0 7 0;pin 1 0 0");
        z.run(1);
        z.setPin(0, 0, 0, false);
        Check.same("a buzz by what was plucked before", z.bestTune(), 1);
        z.setRest(0, 7);
        Check.same("a need that is over", z.bestTune(), 0);
    }

    private static void shifting() {
        Check.sentence("Promise 50: Returns the tune before");
        PinBarrel x = Check.box("barrel 8 3 0");
        int[] tunes = {2, 2, 0, 1};
        int before = 0;
        for (int tune : tunes) {
            x.run(3);
            int step = x.size(8);
            Check.same("the tune before", x.shift(tune), before);
            Check.sentence("Promise 50: Shifts the barrel to a tune, at its step");
            Check.same("the step", x.size(8), step);
            Check.same("the tune", x.size(7), tune);
            before = tune;
        }
        Check.same("an action, also if it changes nothing", x.size(13), 8);
    }

    private static void running() {
        Check.sentence("Promise 51: Returns how many plucks there were in them");
        PinBarrel x = everyTick();
        Check.same("1 tick", x.run(1), 1);
        Check.same("200 ticks", x.run(200), 200);
        Check.same("plucks since load()", x.size(10), 201);
        x.clear(0);
        Check.same("none", x.run(200), 0);
        Check.same("ticks", x.size(9), 401);
    }

    /** By 512 calls at most: 500 runs, and a few questions. */
    private static void tickLimit() {
        Check.sentence("Promise 51: FULL if there would be more than 100000 ticks since load()");
        PinBarrel x = ticked(499, 200);
        Check.same("100000 exactly", x.run(200), 0);
        Check.same("ticks", x.size(9), 100000);
        Check.same("one more", x.run(1), PinBarrel.FULL);
        Check.same("200 more", x.run(200), PinBarrel.FULL);
        Check.same("ticks", x.size(9), 100000);
        PinBarrel y = ticked(499, 200);
        y.run(1);
        Check.same("100001", y.run(200), PinBarrel.FULL);
        Check.sentence("6: a method that returns FULL changes nothing (run)");
        Check.same("ticks", y.size(9), 99801);
        Check.same("step", y.size(8), 99801 % 8);
        Check.same("actions", y.size(13), 8);
        Check.same("the last action", y.undo(), 7);
        Check.same("is the one ahead", y.size(9), 99800);
        PinBarrel z = ticked(499, 200);
        z.run(1);
        Check.same("100000 by 199", z.run(199), 0);
        Check.same("ticks", z.size(9), 100000);
        Check.illegal("exceptions come before errors", () -> z.run(201));
        Check.illegal("exceptions come before errors", () -> z.run(0));
        Check.same("predictions go on", z.ringsIn(200) + z.buzzesIn(200), 0);
        z.load();
        Check.same("a load with an error begins nothing anew", z.run(1), PinBarrel.FULL);
        z.append(0x62617272656c2038L);
        z.append(0x20312030L);
        z.load();
        Check.sentence("What it is: used for at most 512 calls (this is the 512th one)");
        Check.same("since load()", z.run(200), 0);
    }

    private static PinBarrel ticked(int runs, int ticks) {
        PinBarrel x = new PinBarrel();
        for (int i = 0; i < runs; i++) {
            x.run(ticks);
        }
        return x;
    }

    private static void purity() {
        Check.sentence("Promise 53: 1.0f without plucks");
        PinBarrel x = Check.box("barrel 8 2 0;tooth c 0 2;pin 1 0 0;pin 1 1 0;pin 1 2 0");
        Check.same("no tick", x.purity(), 1.0f);
        x.run(8);
        Check.same("ticks without plucks", x.purity(), 1.0f);
        x.shift(1);
        x.run(1);
        Check.sentence("Promise 53: (float) (size(10) - size(11)) / (float) size(10)");
        Check.same("one that rang", x.purity(), 1.0f);
        x.run(1);
        Check.same("one of two", x.purity(), 0.5f);
        x.run(1);
        Check.same("one of three", x.purity(), 1.0f / 3.0f);
        x.setRest(0, 12);
        x.run(8);
        Check.same("one of six", x.purity(), 1.0f / 6.0f);
        PinBarrel y = Check.box("barrel 8 1 0;tooth c 0 1;tooth d 0 12;pin 0 0 0;pin 0 4 1");
        y.run(200);
        Check.same("26 of 50, as float", y.purity(), 26.0f / 50.0f);
    }
}
