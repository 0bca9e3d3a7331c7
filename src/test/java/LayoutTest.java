/** Promises 19 to 26: layouts, and the turn with the fewest collisions. */
final class LayoutTest {
    public static void main(String[] args) {
        oneThatIsFound();
        onesThatAreNot();
        theOrder();
        otherTunes();
        longSearches();
        theTooth();
        theFastest();
        theWanted();
        theBestTurn();
        wrongArguments();
        Check.end();
    }

    private static void oneThatIsFound() {
        PinBarrel x = Check.box("barrel 8 1 0;tooth c 0 4;tooth c 0 4;tooth d 0 1;"
                + "note 0 0 c 0;note 0 2 c 0;note 0 4 c 0;pin 0 1 0");
        Check.same("tries", x.tries(0), 4);
        Check.same("canLay", x.canLay(0), 1);
        Check.same("laidOn(0)", x.laidOn(0), 0);
        Check.same("laidOn(1)", x.laidOn(1), 1);
        Check.same("laidOn(2)", x.laidOn(2), 0);
        Check.same("spare", x.spare(0), 4);
        Check.same("fastest", x.fastest(0), 1);
        Check.same("needed", x.needed(0), 0);
        Check.same("wanted", x.wanted(0), 0);
        Check.same("questions change nothing", x.size(13) + x.size(6) + x.size(3), 2);
        PinBarrel y = new PinBarrel();
        Check.same("no notes: tries", y.tries(0), 0);
        Check.same("no notes: canLay", y.canLay(0), 1);
        Check.same("no notes: spare", y.spare(0), 0);
        y.addTooth(0, 12);
        Check.same("no notes: spare with a tooth", y.spare(0), 1);
        Check.same("no notes: fastest", y.fastest(0), 4);
        Check.same("no notes: needed", y.needed(0), -1);
        Check.same("no notes: wanted", y.wanted(0), 0);
    }

    private static void onesThatAreNot() {
        PinBarrel x = Check.box("barrel 8 1 0;tooth c 0 4;tooth c 0 4;note 0 0 c 0;note 0 1 c 0;note 0 2 c 0");
        Check.same("tries", x.tries(0), 10);
        none(x);
        Check.same("wanted", x.wanted(0), 0);
        PinBarrel y = Check.box("barrel 8 1 0;tooth c 0 9;note 0 0 c 0");
        Check.same("a need above STEPS: tries", y.tries(0), 1);
        none(y);
        y.setRest(0, 8);
        Check.same("a need of STEPS", y.canLay(0), 1);
        PinBarrel z = Check.box("barrel 8 1 0;note 0 0 d 0");
        Check.same("no tooth: tries", z.tries(0), 0);
        none(z);
        Check.same("no tooth: wanted", z.wanted(0), 2);
    }

    private static void none(PinBarrel x) {
        Check.same("canLay", x.canLay(0), 0);
        Check.same("laidOn", x.laidOn(0), -1);
        Check.same("spare", x.spare(0), -1);
        Check.same("fastest", x.fastest(0), -1);
        Check.same("needed", x.needed(0), -1);
    }

    /** By steps, then by PITCH, then by numbers; on one tooth distances count both ways around. */
    private static void theOrder() {
        PinBarrel x = Check.box("barrel 8 1 0;tooth c 0 2;tooth c 0 2;tooth d 0 1;tooth d 0 1;"
                + "note 0 7 c 0;note 0 3 d 0;note 0 0 c 0;note 0 3 c 0;note 0 3 c 0;note 0 3 d 0");
        Check.same("the first step first", x.laidOn(2), 0);
        Check.same("near it around", x.laidOn(0), 1);
        Check.same("like notes by number", x.laidOn(3), 0);
        Check.same("like notes by number", x.laidOn(4), 1);
        Check.same("like notes by number", x.laidOn(1), 2);
        Check.same("like notes by number", x.laidOn(5), 3);
        Check.same("tries", x.tries(0), 1 + 1 + 2 + 1 + 2 + 2);
        // Told the other way, the d that finds no tooth would cost a try less.
        PinBarrel y = Check.box("barrel 8 1 0;tooth c 0 1;tooth c 0 1;note 0 3 d 0;note 0 3 c 0");
        Check.same("of one step the lower PITCH first", y.tries(0), 2);
    }

    private static void otherTunes() {
        PinBarrel x = Check.box("barrel 8 2 1;tooth c 0 1;tooth c 0 1;tooth c 0 1;note 0 3 c 0;"
                + "pin 1 3 0;pin 0 3 0;pin 0 4 2");
        Check.same("beside pins of another tune on both sides", x.laidOn(0), 2);
        Check.same("tries", x.tries(0), 3);
        x.setPin(1, 3, 0, false);
        x.setPin(1, 3, 2, true);
        Check.same("not beside it", x.laidOn(0), 0);
        x.setPin(1, 3, 0, true);
        Check.same("no place", x.canLay(0), 0);
        x.setGap(0);
        Check.same("without GAP", x.laidOn(0), 0);
        PinBarrel y = Check.box("barrel 8 1 2;tooth c 0 1;tooth d 0 1;tooth d 0 1;note 0 0 c 0;note 0 7 d 0");
        Check.same("beside a pin that was laid", y.laidOn(1), 2);
        y.setGap(1);
        Check.same("far enough from it", y.laidOn(1), 1);
    }

    private static void longSearches() {
        String teeth = ";tooth c 0 1;tooth c 0 1;tooth c 0 1;tooth c 0 1;tooth d 0 1;tooth d 0 1;tooth d 0 1;"
                + "tooth e 0 1;tooth e 0 1";
        // Each level multiplies: 4(1+3(1+4(1+2(1+4(1+3(1+2)))))) = 4000 tries before the f fails.
        String levels = ";note 0 1 c 0;note 0 2 d 0;note 0 3 c 0;note 0 4 e 0;note 0 5 c 0;note 0 6 d 0;"
                + "note 0 7 e 0;note 0 8 f 0";
        PinBarrel x = Check.box("barrel 12 1 0" + teeth + levels);
        Check.same("4000 tries until it is known", x.tries(0), 4000);
        Check.same("canLay", x.canLay(0), 0);
        Check.same("lay", x.lay(0), PinBarrel.WRONG);
        Check.same("wanted", x.wanted(0), 5);
        x.addTooth(7, 1);
        x.addNote(0, 0, 7);
        Check.same("4001 tries: tries", x.tries(0), PinBarrel.FULL);
        Check.same("4001 tries: canLay", x.canLay(0), PinBarrel.FULL);
        Check.same("4001 tries: laidOn", x.laidOn(0), -1);
        Check.same("4001 tries: spare", x.spare(0), -1);
        Check.same("4001 tries: fastest", x.fastest(0), -1);
        Check.same("4001 tries: needed", x.needed(0), -1);
        Check.same("4001 tries: lay", x.lay(0), PinBarrel.FULL);
        Check.same("4001 tries: not an action", x.size(13), 2);
        foundLate();
    }

    /** The first note's first tooth lets the last note collide, after all ways between were gone. */
    private static void foundLate() {
        String text = "barrel 64 1 2;tooth d 0 1;tooth c 0 1;tooth e 0 1;tooth f 0 1;tooth f 0 1;tooth g 0 1;"
                + "tooth g 0 1;tooth g 0 1;tooth c 0 1;note 0 0 c 0;note 0 63 d 0";
        String[] between = {"g", "f", "g", "e", "g", "g", "e", "e", "g", "g"};
        for (int i = 0; i < between.length; i++) {
            text += ";note 0 " + (3 + 4 * i) + " " + between[i] + " 0";
        }
        PinBarrel x = Check.box(text);
        Check.same("4000 tries until it is found", x.tries(0), 4000);
        Check.same("canLay", x.canLay(0), 1);
        Check.same("laidOn(0)", x.laidOn(0), 8);
        Check.same("laidOn(1)", x.laidOn(1), 0);
        Check.same("needed", x.needed(0), 0);
        x.addNote(0, 60, 4);
        Check.same("with one more note", x.tries(0), PinBarrel.FULL);
        // Without the tooth that comes too near it is found at once, so the unknown is no nearness to none.
        x.retune(1, 23);
        Check.same("without the bad tooth", x.tries(0), 13);
    }

    private static void theTooth() {
        PinBarrel x = Check.box("barrel 8 1 0;tooth c 0 1;tooth c 0 1;tooth d 0 1;note 0 0 c 0;note 0 3 d 0");
        Check.same("needed", x.needed(0), 2);
        Check.same("spare", x.spare(0), 2);
        x.setRest(2, 12);
        Check.same("needed without a layout", x.needed(0), -1);
        PinBarrel y = Check.box("barrel 8 2 1;tooth c 0 1;tooth c 0 1;tooth c 0 1;tooth c 0 1;note 0 3 c 0;pin 1 3 0");
        Check.same("its pins stay", y.laidOn(0), 2);
        Check.same("another tooth stands in", y.needed(0), -1);
        y.retune(3, 1);
        Check.same("none stands in", y.needed(0), 2);
        needUnknown();
    }

    /** Without tooth 0 the search for the last note's place is too long to know. */
    private static void needUnknown() {
        String text = "barrel 40 1 0;tooth d 0 1";
        for (int i = 0; i < 9; i++) {
            text += ";tooth c 0 1";
        }
        for (int i = 0; i < 5; i++) {
            text += ";note 0 " + i + " c 0";
        }
        PinBarrel x = Check.box(text + ";note 0 6 d 0");
        Check.same("needed, unknown without it", x.needed(0), 0);
    }

    private static void theFastest() {
        PinBarrel x = Check.box("barrel 12 2 0;tooth c 0 2;tooth d 0 12;note 0 0 c 0;note 0 6 c 0;note 1 3 d 0");
        Check.same("fastest(0)", x.fastest(0), 3);
        Check.same("fastest(1)", x.fastest(1), 1);
        x.setSpeed(4);
        Check.same("whatever SPEED is", x.fastest(0), 3);
        Check.same("SPEED stays", x.size(3), 4);
        x.addNote(0, 0, 0);
        Check.same("none", x.fastest(0), -1);
        x.setRest(0, 1);
        x.undo();
        x.undo();
        x.setRest(0, 1);
        Check.same("4", x.fastest(0), 4);
    }

    private static void theWanted() {
        PinBarrel x = Check.box("barrel 8 1 0;tooth d 0 1;note 0 0 g 0;note 0 4 d 0");
        Check.same("the one that is missing", x.wanted(0), 7);
        Check.same("no tooth is added", x.size(4), 1);
        x.addNote(0, 0, 23);
        Check.same("two are missing", x.wanted(0), -1);
        x.undo();
        x.addTooth(7, 1);
        Check.same("with a layout already", x.wanted(0), 0);
        for (int i = 0; i < 9; i++) {
            x.addTooth(1, 1);
        }
        Check.same("11 teeth", x.wanted(0), 0);
        x.addTooth(1, 1);
        Check.same("12 teeth", x.wanted(0), -1);
        PinBarrel y = Check.box("barrel 8 1 1;tooth d 0 1;note 0 0 c 0;note 0 0 d 0;speed 4");
        Check.same("the new one stands beside the last one", y.wanted(0), -1);
        y.addTooth(5, 1);
        Check.same("the new one does not", y.wanted(0), 0);
        y.addNote(0, 3, 0);
        Check.same("REST 1 with its need", y.wanted(0), -1);
        y.setSpeed(3);
        Check.same("REST 1 with a smaller need", y.wanted(0), 0);
    }

    private static void theBestTurn() {
        PinBarrel x = Check.box("barrel 8 2 2;tooth c 0 1;tooth d 0 1;pin 0 0 0;pin 1 0 0");
        Check.same("bestTurn(0)", x.bestTurn(0), 2);
        Check.same("bestTurn(1)", x.bestTurn(1), 2);
        Check.same("no pin is moved", x.hasPin(0, 0, 0), true);
        x.setPin(1, 2, 0, true);
        x.setPin(1, 4, 0, true);
        Check.same("of several the least", x.bestTurn(0), 6);
        x.setPin(1, 6, 0, true);
        Check.same("one collision is the fewest", x.bestTurn(0), 0);
        x.turn(0, 3);
        Check.same("one collision is fewer than two", x.bestTurn(0), 1);
        x.setGap(0);
        Check.same("without GAP", x.bestTurn(0), 0);
        PinBarrel y = Check.box("barrel 8 1 3;tooth c 0 1;tooth d 0 1;pin 0 0 0;pin 0 0 1");
        Check.same("pins of one tune stay together", y.bestTurn(0), 0);
    }

    private static void wrongArguments() {
        PinBarrel x = Check.box("barrel 8 2 0;note 0 0 c 0");
        for (int tune = -1; tune < 3; tune += 3) {
            int wrong = tune;
            Check.illegal("tries", () -> x.tries(wrong));
            Check.illegal("canLay", () -> x.canLay(wrong));
            Check.illegal("spare", () -> x.spare(wrong));
            Check.illegal("fastest", () -> x.fastest(wrong));
            Check.illegal("needed", () -> x.needed(wrong));
            Check.illegal("wanted", () -> x.wanted(wrong));
            Check.illegal("bestTurn", () -> x.bestTurn(wrong));
        }
        Check.outside("laidOn(-1)", () -> x.laidOn(-1));
        Check.outside("laidOn(1)", () -> x.laidOn(1));
    }
}
