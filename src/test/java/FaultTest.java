/** Promises 13 to 18: conflicts, collisions, missing notes, extra pins, and clean tunes. */
final class FaultTest {
    public static void main(String[] args) {
        conflicts();
        collisions();
        collisionsOfTunes();
        missingAndExtra();
        clean();
        Check.end();
    }

    private static void conflicts() {
        PinBarrel x = Check.box("barrel 10 2 0;speed 2;tooth c 0 3;tooth d 0 6;"
                + "pin 0 0 0;pin 0 4 0;pin 0 9 0;pin 0 5 1;pin 1 5 0;pin 1 0 0");
        Check.same("conflicts(0)", x.conflicts(0), 4);
        int[][] want = {{0, 0, 4, 2}, {0, 4, 9, 1}, {0, 9, 0, 5}, {1, 5, 5, 2}};
        for (int index = 0; index < want.length; index++) {
            for (int what = 0; what < 4; what++) {
                Check.same("conflict(0, " + index + ", " + what + ")", x.conflict(0, index, what), want[index][what]);
            }
        }
        Check.same("conflict(0, 4, 0)", x.conflict(0, 4, 0), -1);
        Check.same("conflict(0, -1, 0)", x.conflict(0, -1, 0), -1);
        Check.same("conflicts(1)", x.conflicts(1), 2);
        Check.same("conflict(1, 1, 1)", x.conflict(1, 1, 1), 5);
        Check.same("conflict(1, 1, 2)", x.conflict(1, 1, 2), 0);
        x.setSpeed(1);
        Check.same("with less speed", x.conflicts(0), 1);
        Check.same("the one around", x.conflict(0, 0, 1), 9);
        x.setRest(0, 5);
        Check.same("a way as long as the need", x.conflicts(1), 0);
        Check.same("a way as long as the need, and shorter ones", x.conflicts(0), 2);
        Check.illegal("conflicts(2)", () -> x.conflicts(2));
        Check.illegal("conflicts(-1)", () -> x.conflicts(-1));
        Check.illegal("conflict(2, 0, 0)", () -> x.conflict(2, 0, 0));
        Check.illegal("conflict(-1, 0, 0)", () -> x.conflict(-1, 0, 0));
        Check.illegal("conflict(0, 9, 4)", () -> x.conflict(0, 9, 4));
        Check.illegal("conflict(0, 0, -1)", () -> x.conflict(0, 0, -1));
    }

    private static void collisions() {
        PinBarrel x = Check.box("barrel 8 1 2;tooth c 0 1;tooth d 0 1;tooth e 0 1;"
                + "pin 0 0 0;pin 0 7 1;pin 0 0 1;pin 0 2 1;pin 0 1 2;pin 0 0 2");
        int[][] want = {{0, 0, 1, 0}, {0, 0, 1, 7}, {1, 0, 2, 0}, {1, 0, 2, 1}, {1, 2, 2, 1}, {1, 7, 2, 0}};
        Check.same("collisions", x.size(12), 6);
        for (int index = 0; index < want.length; index++) {
            Check.same("the lower tune", x.collision(index, 0), 0);
            Check.same("the lower tooth of " + index, x.collision(index, 1), want[index][0]);
            Check.same("the lower step of " + index, x.collision(index, 2), want[index][1]);
            Check.same("the other tune", x.collision(index, 3), 0);
            Check.same("the other tooth of " + index, x.collision(index, 4), want[index][2]);
            Check.same("the other step of " + index, x.collision(index, 5), want[index][3]);
        }
        Check.same("collision(6, 0)", x.collision(6, 0), -1);
        Check.same("collision(-1, 0)", x.collision(-1, 0), -1);
        Check.illegal("collision(0, 6)", () -> x.collision(0, 6));
        Check.illegal("collision(9, -1)", () -> x.collision(9, -1));
        x.setGap(1);
        Check.same("with GAP 1", x.size(12), 2);
        x.setGap(0);
        Check.same("with GAP 0", x.size(12), 0);
        x.setGap(3);
        Check.same("with GAP 3", x.size(12), 9);
    }

    private static void collisionsOfTunes() {
        PinBarrel x = Check.box("barrel 8 2 1;tooth c 0 1;tooth d 0 1;pin 0 3 0;pin 1 3 0;pin 0 3 1;pin 1 3 1");
        int[][] want = {{0, 0, 1, 0}, {1, 0, 0, 1}, {0, 1, 1, 1}};
        Check.same("collisions", x.size(12), 3);
        for (int index = 0; index < want.length; index++) {
            Check.same("the lower tune of " + index, x.collision(index, 0), want[index][0]);
            Check.same("the lower tooth of " + index, x.collision(index, 1), want[index][1]);
            Check.same("the other tune of " + index, x.collision(index, 3), want[index][2]);
            Check.same("the other tooth of " + index, x.collision(index, 4), want[index][3]);
        }
    }

    private static void missingAndExtra() {
        PinBarrel x = Check.box("barrel 10 2 0;tooth c 0 3;tooth gis 1 1;tooth c 0 5;"
                + "note 0 4 c 0;note 1 4 c 0;note 0 4 c 0;note 0 4 c 0;"
                + "pin 0 4 0;pin 0 4 2;pin 1 9 1;pin 0 7 0;pin 0 0 0");
        Check.same("missing(0)", x.missing(0), 1);
        Check.same("extra(0)", x.extra(0), 2);
        Check.same("missing(1)", x.missing(1), 1);
        Check.same("extra(1)", x.extra(1), 1);
        x.dropNote(0);
        x.dropNote(1);
        Check.same("missing of one note", x.missing(0), 0);
        Check.same("a second pin for one note is extra", x.extra(0), 3);
        Check.illegal("missing(2)", () -> x.missing(2));
        Check.illegal("missing(-1)", () -> x.missing(-1));
        Check.illegal("extra(2)", () -> x.extra(2));
        Check.illegal("extra(-1)", () -> x.extra(-1));
    }

    private static void clean() {
        PinBarrel x = Check.box("barrel 8 2 1;tooth c 0 2;tooth d 0 2;"
                + "note 0 1 c 0;note 0 4 d 0;pin 0 1 0;pin 0 4 1");
        Check.same("a clean tune", x.isClean(0), true);
        Check.same("an empty tune", x.isClean(1), true);
        x.setPin(0, 6, 0, true);
        Check.same("an extra pin", x.isClean(0), false);
        x.undo();
        x.addNote(0, 1, 0);
        Check.same("a missing note", x.isClean(0), false);
        x.undo();
        x.setRest(0, 9);
        Check.same("a conflict", x.isClean(0), false);
        x.undo();
        x.addNote(1, 1, 0);
        x.setPin(1, 1, 0, true);
        Check.same("a collision with a higher track", x.isClean(0), false);
        Check.same("a collision with a lower track", x.isClean(1), false);
        x.setGap(0);
        Check.same("without GAP", x.isClean(0) && x.isClean(1), true);
        Check.illegal("isClean(2)", () -> x.isClean(2));
        Check.illegal("isClean(-1)", () -> x.isClean(-1));
    }
}
