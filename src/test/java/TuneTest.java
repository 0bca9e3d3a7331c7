/** Promises 27 to 30: uses, mostUsed, crowd, silence. */
final class TuneTest {
    public static void main(String[] args) {
        PinBarrel x = Check.box("barrel 8 3 0;tooth c 0 1;tooth d 0 1;"
                + "note 0 7 d 0;note 0 0 d 0;note 0 1 d 0;note 0 0 d 0;note 0 4 c 0;note 1 4 b 1;note 0 6 d 0;"
                + "pin 0 1 0;pin 0 1 1;pin 0 4 1;pin 0 6 0;pin 1 5 0");
        notes(x);
        silences(x);
        Check.end();
    }

    private static void notes(PinBarrel x) {
        Check.same("uses(0, 2)", x.uses(0, 2), 5);
        Check.same("uses(0, 0)", x.uses(0, 0), 1);
        Check.same("uses(0, 23)", x.uses(0, 23), 0);
        Check.same("uses(1, 23)", x.uses(1, 23), 1);
        Check.illegal("uses(3, 0)", () -> x.uses(3, 0));
        Check.illegal("uses(-1, 0)", () -> x.uses(-1, 0));
        Check.illegal("uses(0, 24)", () -> x.uses(0, 24));
        Check.illegal("uses(0, -1)", () -> x.uses(0, -1));
        Check.same("mostUsed(0)", x.mostUsed(0), 2);
        Check.same("mostUsed(1)", x.mostUsed(1), 23);
        Check.same("mostUsed(2)", x.mostUsed(2), -1);
        x.addNote(1, 4, 22);
        Check.same("mostUsed of several", x.mostUsed(1), 22);
        Check.illegal("mostUsed(3)", () -> x.mostUsed(3));
        Check.illegal("mostUsed(-1)", () -> x.mostUsed(-1));
        int[] crowds = {2, 3, 4, 5, 5, 5, 5, 5, 5};
        for (int i = 0; i < crowds.length; i++) {
            Check.same("crowd(0, 2, " + (i + 1) + ")", x.crowd(0, 2, i + 1), crowds[i]);
        }
        Check.same("crowd(0, 2, 64)", x.crowd(0, 2, 64), 5);
        Check.same("crowd(0, 9, 3)", x.crowd(0, 9, 3), 0);
        Check.same("crowd(1, 23, 1)", x.crowd(1, 23, 1), 1);
        Check.illegal("crowd(3, 0, 1)", () -> x.crowd(3, 0, 1));
        Check.illegal("crowd(0, 24, 1)", () -> x.crowd(0, 24, 1));
        Check.illegal("crowd(0, -1, 1)", () -> x.crowd(0, -1, 1));
        Check.illegal("crowd(0, 0, 0)", () -> x.crowd(0, 0, 0));
        Check.illegal("crowd(0, 0, 65)", () -> x.crowd(0, 0, 65));
    }

    private static void silences(PinBarrel x) {
        Check.same("silence(0)", x.silence(0), 3);
        Check.same("silence with one step", x.silence(1), 8);
        Check.same("silence without pins", x.silence(2), -1);
        x.setPin(0, 4, 1, false);
        Check.same("a longer one", x.silence(0), 5);
        x.setPin(0, 6, 0, false);
        Check.same("two pins at one step", x.silence(0), 8);
        Check.illegal("silence(3)", () -> x.silence(3));
        Check.illegal("silence(-1)", () -> x.silence(-1));
    }
}
