/** The edges that the document names for what is wrong with a box: section 3 and promises 13 to 18. */
final class FaultEdgeTest {
    public static void main(String[] args) {
        conflictWays();
        aloneAround();
        conflictPlaces();
        noConflicts();
        collisionSteps();
        collisionTracks();
        collisionPlaces();
        manyCollisions();
        missingNotes();
        extraPins();
        cleanTunes();
        cleanOfOthers();
        Check.end();
    }

    private static void conflictWays() {
        Check.sentence("3: a conflict, if the way is less than the need");
        for (int steps : new int[] {8, 9, 63, 64}) {
            for (int way = 1; way <= 4; way++) {
                // From the first step on, over the last step, and up to the last step.
                for (int from : new int[] {0, steps - 1, steps - 1 - way, steps - way}) {
                    int to = (from + way) % steps;
                    PinBarrel x = Check.box("barrel " + steps + " 1 0;tooth c 0 1;pin 0 " + from + " 0;pin 0 " + to
                            + " 0");
                    String told = "from " + from + " to " + to + " of " + steps;
                    x.setRest(0, way);
                    Check.same(told + " with a need of the way", x.conflicts(0), 0);
                    Check.same(told + " with a need of the way", x.conflict(0, 0, 0), PinBarrel.NONE);
                    x.setRest(0, way + 1);
                    boolean both = steps - way < way + 1;
                    Check.same(told + " with a need of one more", x.conflicts(0), both ? 2 : 1);
                    int index = both && to < from ? 1 : 0;
                    Check.same(told + ": first step", x.conflict(0, index, 1), from);
                    Check.same(told + ": next step", x.conflict(0, index, 2), to);
                    Check.same(told + ": too short by", x.conflict(0, index, 3), 1);
                }
            }
        }
    }

    private static void aloneAround() {
        Check.sentence("3: the next pin is itself, if there is no other one; the way to itself is STEPS");
        for (int steps = 8; steps <= 12; steps++) {
            PinBarrel x = Check.box("barrel " + steps + " 1 0;tooth c 0 1;pin 0 " + (steps - 1) + " 0");
            x.setRest(0, steps);
            Check.same("a need of STEPS", x.conflicts(0), 0);
            if (steps < 12) {
                x.setRest(0, steps + 1);
                Check.same("a need of STEPS + 1", x.conflicts(0), 1);
                Check.same("the first pin", x.conflict(0, 0, 1), steps - 1);
                Check.same("the next pin", x.conflict(0, 0, 2), steps - 1);
                Check.same("too short by", x.conflict(0, 0, 3), 1);
            }
            x.setRest(0, 12);
            x.setSpeed(4);
            Check.same("too short by", x.conflict(0, 0, 3), 48 - steps);
        }
        PinBarrel y = Check.box("barrel 48 1 0;speed 4;tooth c 0 12;pin 0 5 0");
        Check.same("the greatest need and as many steps", y.conflicts(0), 0);
        PinBarrel z = Check.box("barrel 47 1 0;speed 4;tooth c 0 12;pin 0 5 0");
        Check.same("the greatest need and a step less", z.conflicts(0), 1);
        PinBarrel two = Check.box("barrel 8 1 0;tooth c 0 4;pin 0 1 0;pin 0 5 0");
        Check.same("both ways as long as the need", two.conflicts(0), 0);
        two.setRest(0, 5);
        Check.same("both ways too short", two.conflicts(0), 2);
    }

    private static void conflictPlaces() {
        Check.sentence("Promise 14: by teeth, of the same tooth by the step of the first pin");
        PinBarrel x = Check.box("barrel 64 2 0;tooth c 0 3;tooth d 0 3;tooth e 0 3;"
                + "pin 0 63 2;pin 0 0 2;pin 0 1 2;pin 0 62 0;pin 0 63 0;pin 0 0 0;pin 1 0 1;pin 1 1 1;pin 0 30 1");
        int[][] want = {{0, 62, 63, 2}, {0, 63, 0, 2}, {2, 0, 1, 2}, {2, 63, 0, 2}};
        Check.same("conflicts(0)", x.conflicts(0), want.length);
        for (int index = 0; index < want.length; index++) {
            for (int what = 0; what < 4; what++) {
                Check.same("conflict(0, " + index + ", " + what + ")", x.conflict(0, index, what), want[index][what]);
            }
        }
        Check.sentence("Promise 14: NONE if there is no such place");
        for (int what = 0; what < 4; what++) {
            Check.same("behind the last one", x.conflict(0, want.length, what), PinBarrel.NONE);
            Check.same("-1", x.conflict(0, -1, what), PinBarrel.NONE);
            Check.same("the least number", x.conflict(0, Integer.MIN_VALUE, what), PinBarrel.NONE);
            Check.same("the greatest number", x.conflict(0, Integer.MAX_VALUE, what), PinBarrel.NONE);
        }
        Check.sentence("3: a conflict of a tune is of the same tune and tooth");
        PinBarrel z = Check.box("barrel 9 2 0;tooth c 0 4;tooth d 0 1;pin 0 7 0;pin 0 1 0;pin 0 8 1;pin 1 8 0");
        Check.same("a pin of another tooth and one of another tune between", z.conflicts(0), 1);
        Check.same("its first step", z.conflict(0, 0, 1), 7);
        Check.same("its next step", z.conflict(0, 0, 2), 1);
        Check.same("too short by", z.conflict(0, 0, 3), 1);
        Check.same("the other tune", x.conflicts(1), 1);
        Check.same("its tooth", x.conflict(1, 0, 0), 1);
        Check.same("its first step", x.conflict(1, 0, 1), 0);
        Check.same("no more of it", x.conflict(1, 1, 0), PinBarrel.NONE);
        PinBarrel y = Check.box("barrel 64 1 0" + ";tooth c 0 12".repeat(11));
        y.addTooth(0, 12);
        y.setPin(0, 0, 11, true);
        y.setPin(0, 11, 11, true);
        Check.same("the last tooth", y.conflict(0, 0, 0), 11);
    }

    private static void noConflicts() {
        Check.sentence("Promise 13: Counts the conflicts of a tune, from none to one for each pin");
        Check.same("no teeth", new PinBarrel().conflicts(0), 0);
        PinBarrel x = Check.box("barrel 64 1 0;tooth c 0 1;tooth c 0 2");
        Check.same("no pins", x.conflicts(0), 0);
        for (int step = 0; step < 64; step++) {
            x.setPin(0, step, 0, true);
            x.setPin(0, step, 1, true);
        }
        Check.same("a need of 1 never, a need of 2 always", x.conflicts(0), 64);
        Check.same("the last one", x.conflict(0, 63, 1), 63);
        Check.same("its next one", x.conflict(0, 63, 2), 0);
        Check.same("behind it", x.conflict(0, 64, 1), PinBarrel.NONE);
        Check.sentence("1: REST * SPEED");
        x.setSpeed(2);
        Check.same("with SPEED 2 both", x.conflicts(0), 128);
    }

    private static void collisionSteps() {
        Check.sentence("1: less than n apart, if one of both ways is less than n, or the same and n above 0");
        for (int steps : new int[] {8, 9, 63, 64}) {
            for (int gap = 0; gap <= 3; gap++) {
                for (int apart = 0; apart <= 4; apart++) {
                    for (int from : new int[] {0, 1, steps - 1, steps - 2}) {
                        int to = (from + apart) % steps;
                        PinBarrel x = Check.box("barrel " + steps + " 1 " + gap + ";tooth c 0 1;tooth d 0 1;pin 0 "
                                + from + " 0;pin 0 " + to + " 1;note 0 " + from + " c 0;note 0 " + to + " d 0");
                        String told = "GAP " + gap + ", steps " + from + " and " + to + " of " + steps;
                        Check.same(told, x.size(12), apart < gap ? 1 : 0);
                        x.reverse(0);
                        Check.same(told + " the other way", x.size(12), apart < gap ? 1 : 0);
                        Check.same(told + " clean", x.isClean(0), apart >= gap);
                    }
                }
            }
        }
    }

    private static void collisionTracks() {
        Check.sentence("1: a pin lies on the track TUNES * tooth + tune; 3: tracks whose numbers differ by 1");
        for (int tunes = 1; tunes <= 3; tunes++) {
            for (int track = 0; track < 12 * tunes; track++) {
                for (int other = 0; other < 12 * tunes; other++) {
                    PinBarrel x = Check.box("barrel 8 " + tunes + " 1" + ";tooth c 0 1".repeat(12) + ";pin "
                            + track % tunes + " 5 " + track / tunes + ";pin " + other % tunes + " 5 " + other / tunes);
                    boolean collide = track - other == 1 || other - track == 1;
                    String told = "tracks " + track + " and " + other + " of " + tunes + " tunes";
                    Check.same(told, x.size(12), collide ? 1 : 0);
                    int lower = Math.min(track, other);
                    int[] want = {lower % tunes, lower / tunes, 5, (lower + 1) % tunes, (lower + 1) / tunes, 5};
                    for (int what = 0; what < 6; what++) {
                        Check.same(told + ": " + what, x.collision(0, what), collide ? want[what] : PinBarrel.NONE);
                    }
                }
            }
        }
    }

    private static void collisionPlaces() {
        Check.sentence("Promise 15: by the lower track, by its step, then by the step of the other one");
        PinBarrel x = Check.box("barrel 64 2 3;tooth c 0 1;tooth c 0 1;"
                + "pin 1 63 0;pin 1 0 0;pin 0 62 0;pin 0 1 0;pin 0 1 1;pin 0 63 1;pin 1 30 1");
        // Tracks: tune 0 of tooth 0, tune 1 of tooth 0, tune 0 of tooth 1, tune 1 of tooth 1.
        int[][] want = {{0, 0, 1, 1, 0, 0}, {0, 0, 1, 1, 0, 63}, {0, 0, 62, 1, 0, 0}, {0, 0, 62, 1, 0, 63},
            {1, 0, 0, 0, 1, 1}, {1, 0, 0, 0, 1, 63}, {1, 0, 63, 0, 1, 1}, {1, 0, 63, 0, 1, 63}};
        Check.same("collisions", x.size(12), want.length);
        for (int index = 0; index < want.length; index++) {
            for (int what = 0; what < 6; what++) {
                Check.same("collision(" + index + ", " + what + ")", x.collision(index, what), want[index][what]);
            }
        }
        Check.sentence("Promise 15: NONE if there is no such place");
        for (int what = 0; what < 6; what++) {
            Check.same("behind the last one", x.collision(want.length, what), PinBarrel.NONE);
            Check.same("-1", x.collision(-1, what), PinBarrel.NONE);
            Check.same("the least number", x.collision(Integer.MIN_VALUE, what), PinBarrel.NONE);
            Check.same("the greatest number", x.collision(Integer.MAX_VALUE, what), PinBarrel.NONE);
            Check.same("no teeth", new PinBarrel().collision(0, what), PinBarrel.NONE);
        }
    }

    private static void manyCollisions() {
        Check.sentence("3: each two pins that are too near are one collision");
        PinBarrel x = Check.box("barrel 8 1 3;tooth c 0 1;tooth c 0 1");
        for (int step = 0; step < 8; step++) {
            x.setPin(0, step, 0, true);
            x.setPin(0, step, 1, true);
        }
        int[] want = {0, 8, 24, 40};
        for (int gap = 0; gap <= 3; gap++) {
            x.setGap(gap);
            Check.same("with GAP " + gap, x.size(12), want[gap]);
            Check.same("the last one: its step", x.collision(want[gap] - 1, 2), gap == 0 ? PinBarrel.NONE : 7);
            Check.same("behind it", x.collision(want[gap], 2), PinBarrel.NONE);
        }
        int[] others = {0, 1, 5, 6, 7};
        for (int i = 0; i < 5; i++) {
            Check.same("the others of the last step", x.collision(35 + i, 5), others[i]);
        }
    }

    private static void missingNotes() {
        Check.sentence("3: a note that is not played is missing");
        PinBarrel x = Check.box("barrel 8 2 0;tooth c 0 1;tooth c 0 1");
        Check.same("no notes", x.missing(0), 0);
        for (int notes = 1; notes <= 3; notes++) {
            x.addNote(0, 7, 0);
            Check.same("all of " + notes, x.missing(0), notes);
        }
        x.setPin(0, 7, 1, true);
        Check.same("but one", x.missing(0), 2);
        x.setPin(0, 7, 0, true);
        Check.same("but two", x.missing(0), 1);
        x.addTooth(0, 1);
        x.setPin(0, 7, 2, true);
        Check.same("none", x.missing(0), 0);
        Check.same("the other tune", x.missing(1), 0);
        x.addNote(1, 7, 0);
        Check.same("the other tune's", x.missing(1), 1);
        Check.same("of that tune alone", x.missing(0), 0);
    }

    private static void extraPins() {
        Check.sentence("3: a pin that plays no note is extra");
        PinBarrel x = Check.box("barrel 8 2 0;tooth c 0 1;tooth c 0 1;tooth b 1 1");
        Check.same("no pins", x.extra(0), 0);
        x.setPin(0, 0, 0, true);
        x.setPin(0, 0, 1, true);
        x.setPin(0, 0, 2, true);
        Check.same("no notes", x.extra(0), 3);
        x.addNote(0, 0, 0);
        Check.same("one pin for one note", x.extra(0), 2);
        x.addNote(0, 7, 0);
        x.addNote(1, 0, 0);
        x.addNote(0, 0, 12);
        Check.same("other notes", x.extra(0), 2);
        x.addNote(0, 0, 0);
        x.addNote(0, 0, 23);
        Check.same("each pin plays a note", x.extra(0), 0);
        x.addNote(0, 0, 0);
        Check.same("more notes than pins", x.extra(0), 0);
        Check.same("the other tune", x.extra(1), 0);
        x.setPin(1, 7, 0, true);
        Check.same("the other tune's", x.extra(1), 1);
        Check.same("of that tune alone", x.extra(0), 0);
    }

    private static void cleanTunes() {
        Check.sentence("Promise 18: clean, if no note is missing, no pin extra, no conflict, and no collision");
        Check.same("nothing at all", new PinBarrel().isClean(0), true);
        PinBarrel x = Check.box("barrel 8 1 1;tooth c 0 8;tooth d 0 8;note 0 7 c 0;note 0 0 d 0;pin 0 7 0;pin 0 0 1");
        Check.same("a need of STEPS, and steps as far apart as GAP", x.isClean(0), true);
        x.setGap(2);
        Check.same("a collision around", x.isClean(0), false);
        x.undo();
        x.setRest(1, 9);
        Check.same("a conflict of a pin with itself", x.isClean(0), false);
        x.undo();
        x.setPin(0, 7, 0, false);
        Check.same("a missing note", x.isClean(0), false);
        x.undo();
        x.dropNote(0);
        Check.same("an extra pin", x.isClean(0), false);
        x.undo();
        x.retune(0, 12);
        Check.same("a missing note and an extra pin", x.isClean(0), false);
        x.undo();
        Check.same("as it was", x.isClean(0), true);
    }

    private static void cleanOfOthers() {
        Check.sentence("Promise 18: what is wrong with other tunes does not matter, but for collisions with its pins");
        PinBarrel x = Check.box("barrel 8 3 1;tooth c 0 1;tooth d 0 9;note 1 0 c 0;pin 1 0 0;note 0 3 b 1;pin 2 4 1");
        Check.same("others miss notes, have extra pins and conflicts", x.isClean(1), true);
        Check.same("a missing note", x.isClean(0), false);
        Check.same("an extra pin", x.isClean(2), false);
        x.setPin(0, 4, 1, true);
        Check.same("tracks that differ by 2", x.size(12), 0);
        x.setPin(1, 4, 1, true);
        x.addNote(1, 4, 2);
        x.setRest(1, 1);
        Check.same("collisions on both sides", x.isClean(1), false);
        Check.same("how many", x.size(12), 2);
        x.setPin(0, 4, 1, false);
        Check.same("a collision with the higher track", x.isClean(1), false);
        x.setPin(2, 4, 1, false);
        Check.same("none", x.isClean(1), true);
        x.setPin(0, 4, 1, true);
        Check.same("a collision with the lower track", x.isClean(1), false);
        x.setGap(0);
        Check.same("GAP 0", x.isClean(1), true);
        for (int tooth = 0; tooth < 12; tooth++) {
            PinBarrel z = Check.box("barrel 8 3 1" + ";tooth c 0 1".repeat(12));
            for (int tune = 0; tune < 3; tune++) {
                z.addNote(tune, 7, 0);
                z.setPin(tune, 7, tooth, true);
                Check.same("alone or beside the tune below, tooth " + tooth, z.isClean(tune), tune == 0);
            }
            z.clear(1);
            Check.same("the first tune, two tracks apart", z.isClean(0), true);
            Check.same("the last tune, two tracks apart", z.isClean(2), true);
        }
        PinBarrel y = Check.box("barrel 8 3 1;tooth c 0 1;tooth d 0 1;note 1 4 c 0;pin 1 4 0;pin 2 4 0;pin 0 4 1");
        y.setPin(2, 4, 0, false);
        Check.same("a collision is none of the others' business", y.isClean(1), true);
        y.setPin(2, 5, 0, true);
        y.setPin(0, 5, 1, true);
        Check.same("a collision of two other tunes", y.size(12), 1);
        Check.same("does not matter", y.isClean(1), true);
    }
}
