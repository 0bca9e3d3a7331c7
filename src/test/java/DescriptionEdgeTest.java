/** The edges that the document names for descriptions: section 2 and promises 1 to 5. */
final class DescriptionEdgeTest {
    private static final String START = "barrel 8 1 0";
    private static final String[] NAMES = {"c", "cis", "d", "dis", "e", "f", "fis", "g", "gis", "a", "ais", "b"};

    public static void main(String[] args) {
        newObject();
        appending();
        barrelNumbers();
        barrelPlace();
        speeds();
        toothWords();
        toothNumbers();
        noteNumbers();
        pinNumbers();
        spaces();
        maximalRuns();
        textsThatEndTooEarly();
        errorPlaces();
        tooMany();
        severalErrors();
        loading();
        loadResults();
        Check.end();
    }

    private static void newObject() {
        Check.sentence("Promise 1: an empty input buffer, an empty output and no snapshots");
        PinBarrel x = new PinBarrel();
        Check.same("append(0)", x.append(0L), 0);
        Check.same("outputByte(0)", x.outputByte(0), PinBarrel.NONE);
        Check.same("restoreSnapshot(0)", x.restoreSnapshot(0), PinBarrel.NONE);
        Check.same("restoreSnapshot(1)", x.restoreSnapshot(1), PinBarrel.NONE);
        Check.same("load() of the empty buffer", x.load(), -100);
        Check.sentence("2: A new object is as by the text \"barrel 8 1 0\"");
        Check.same("all of it", Whole.now(new PinBarrel()), Whole.now(Check.box(START)));
        Check.same("STEPS", new PinBarrel().size(0), 8);
        Check.same("TUNES", new PinBarrel().size(1), 1);
        Check.same("GAP", new PinBarrel().size(2), 0);
        Check.same("SPEED", new PinBarrel().size(3), 1);
        for (int what = 4; what <= 13; what++) {
            Check.same("size(" + what + ")", new PinBarrel().size(what), 0);
        }
        Check.same("undo()", new PinBarrel().undo(), PinBarrel.NONE);
        Check.outside("tooth(0, 0)", () -> new PinBarrel().tooth(0, 0));
        Check.outside("note(0, 0)", () -> new PinBarrel().note(0, 0));
    }

    private static void appending() {
        Check.sentence("Promise 2: the most significant byte first");
        PinBarrel x = new PinBarrel();
        Check.same("eight bytes", x.append(0x62617272656c2038L), 8);
        Check.same("four bytes", x.append(0x20312030L), 12);
        Check.same("load()", x.load(), 0);
        Check.sentence("Promise 2: bytes that are 0 are left out");
        for (int place = 0; place < 64; place += 8) {
            Check.same("all but one", new PinBarrel().append(-1L & ~(255L << place)), 7);
            Check.same("one alone", new PinBarrel().append(1L << place), 1);
            Check.same("the highest bit of one", new PinBarrel().append(128L << place), 1);
        }
        Check.same("zeros between", x.append(0x6200610072007200L) + x.append(0x65006c0038L), 4 + 7);
        Check.same("zeros between", x.append(0x2000310000002030L), 11);
        Check.same("load()", x.load(), 0);
        Check.sentence("Promise 2: Returns FULL if it would exceed 700");
        PinBarrel bits = filled(START, 700);
        for (int bit = 0; bit < 64; bit++) {
            Check.same("701 by one bit", bits.append(1L << bit), PinBarrel.FULL);
        }
        PinBarrel full = filled(START, 692);
        Check.same("700 exactly", full.append(0x2020202020202020L), 700);
        Check.same("701", full.append(' '), PinBarrel.FULL);
        Check.same("0 bytes more", full.append(0L), 700);
        Check.same("load() of 700", full.load(), 0);
        Check.same("the emptied buffer has room again", full.append('b'), 1);
        PinBarrel near = filled(START, 693);
        Check.same("701 by eight bytes", near.append(0x7878787878787878L), PinBarrel.FULL);
        Check.same("708 by eight bytes", filled(START, 700).append(-1L), PinBarrel.FULL);
        Check.sentence("6: A method that returns FULL changes nothing (append)");
        Check.same("no byte of them is taken", near.append(0L), 693);
        Check.same("seven bytes have room", near.append(0x20202020202020L), 700);
        Check.same("load()", near.load(), 0);
    }

    /** A box with a text and spaces behind it in its input buffer. */
    private static PinBarrel filled(String text, int length) {
        PinBarrel x = new PinBarrel();
        Check.same("filling", Check.put(x, text + " ".repeat(length - text.length())), length);
        return x;
    }

    private static void barrelNumbers() {
        Check.sentence("2: barrel STEPS 8 to 64");
        for (int steps = 8; steps <= 64; steps++) {
            Check.same("STEPS", right("barrel " + steps + " 1 0", 0).size(0), steps);
        }
        for (String steps : new String[] {"0", "7", "65", "80", "640", "1000", "4294967304", "18446744073709551624"}) {
            wrong("barrel " + steps + " 1 0", 7, 2, 0);
        }
        Check.sentence("2: barrel TUNES 1 to 3");
        for (int tunes = 1; tunes <= 3; tunes++) {
            Check.same("TUNES", right("barrel 8 " + tunes + " 0", 0).size(1), tunes);
        }
        wrong("barrel 8 0 0", 9, 2, 0);
        wrong("barrel 8 4 0", 9, 2, 0);
        wrong("barrel 8 10 0", 9, 2, 0);
        Check.sentence("2: barrel GAP 0 to 3");
        for (int gap = 0; gap <= 3; gap++) {
            Check.same("GAP", right("barrel 8 1 " + gap, 0).size(2), gap);
        }
        wrong("barrel 8 1 4", 11, 2, 0);
        wrong("barrel 8 1 30", 11, 2, 0);
    }

    private static void barrelPlace() {
        Check.sentence("2: one or more statements");
        wrong("", 0, 1, 0);
        wrong("    ", 4, 1, 0);
        right(START, 0);
        Check.sentence("2: separated by semicolons");
        wrong(START + " speed 1", 13, 1, 0);
        wrong(START + ";;speed 1", 13, 1, 1);
        wrong(";" + START, 0, 1, 0);
        wrong(START + ";", 13, 1, 1);
        wrong(START + ";speed 1;", 21, 1, 2);
        wrong(START + ",speed 1", 12, 1, 0);
        Check.sentence("2: the first one is barrel");
        wrong("speed 1;" + START, 0, 1, 0);
        wrong("tooth c 0 1;" + START, 0, 1, 0);
        wrong("note 0 0 c 0;" + START, 0, 1, 0);
        wrong("pin 0 0 0;" + START, 0, 1, 0);
        Check.sentence("2: barrel stands only there");
        wrong(START + ";" + START, 13, 1, 1);
        wrong(START + ";speed 1; barrel", 22, 1, 2);
    }

    private static void speeds() {
        Check.sentence("2: speed SPEED 1 to 4");
        for (int speed = 1; speed <= 4; speed++) {
            Check.same("SPEED", right(START + ";speed " + speed, 0).size(3), speed);
        }
        wrong(START + ";speed 0", 19, 2, 1);
        wrong(START + ";speed 5", 19, 2, 1);
        wrong(START + ";speed 41", 19, 2, 1);
        Check.sentence("2: SPEED is 1 without it");
        Check.same("SPEED", right(START + ";tooth c 0 4", 0).size(3), 1);
        PinBarrel x = right(START + ";speed 3", 0);
        Check.load(x, START);
        Check.same("SPEED of a text without it behind one with it", x.size(3), 1);
        Check.sentence("2: the last speed counts");
        Check.same("SPEED", right(START + ";speed 4;speed 2", 0).size(3), 2);
        Check.same("SPEED", right(START + ";speed 2;tooth c 0 1;speed 4;note 0 0 c 0", 1).size(3), 4);
        Check.same("the need of a tooth ahead", right(START + ";tooth c 0 5;speed 3;speed 4", 0).tooth(0, 2), 20);
    }

    private static void toothWords() {
        Check.sentence("1: the PITCH of a NAME and an OCTAVE");
        for (int pitch = 0; pitch < 24; pitch++) {
            String told = NAMES[pitch % 12] + " " + pitch / 12;
            PinBarrel x = right(START + ";tooth " + told + " 1;note 0 0 " + told, 1);
            Check.same("PITCH of the tooth " + told, x.tooth(0, 0), pitch);
            Check.same("PITCH of the note " + told, x.note(0, 2), pitch);
        }
        Check.sentence("2: a word that is no NAME where one must be, too");
        for (String word : new String[] {"h", "des", "ci", "ciss", "cc", "eis", "is", "s", "z", "tooth", "bb"}) {
            wrong(START + ";tooth " + word + " 0 1", 19, 1, 1);
            wrong(START + ";note 0 0 " + word + " 0", 22, 1, 1);
        }
        Check.sentence("2: OCTAVE 0 or 1");
        wrong(START + ";tooth c 2 1", 21, 2, 1);
        wrong(START + ";tooth b 2 1", 21, 2, 1);
        wrong(START + ";tooth c 10 1", 21, 2, 1);
        wrong(START + ";note 0 0 c 2", 24, 2, 1);
        wrong(START + ";note 0 0 b 9", 24, 2, 1);
    }

    private static void toothNumbers() {
        Check.sentence("2: tooth REST 1 to 12");
        for (int rest = 1; rest <= 12; rest++) {
            Check.same("REST", right(START + ";tooth c 0 " + rest, 0).tooth(0, 1), rest);
        }
        wrong(START + ";tooth c 0 0", 23, 2, 1);
        wrong(START + ";tooth c 0 13", 23, 2, 1);
        wrong(START + ";tooth c 0 120", 23, 2, 1);
        Check.sentence("2: the next tooth, from 0");
        PinBarrel x = right(START + ";tooth d 0 3;tooth c 0 2;tooth d 0 1", 0);
        for (int tooth = 0; tooth < 3; tooth++) {
            Check.same("REST of tooth " + tooth, x.tooth(tooth, 1), 3 - tooth);
        }
    }

    private static void noteNumbers() {
        Check.sentence("2: note TUNE 0 to TUNES - 1");
        for (int tunes = 1; tunes <= 3; tunes++) {
            String start = "barrel 8 " + tunes + " 0;note ";
            for (int tune = 0; tune < tunes; tune++) {
                Check.same("its tune", right(start + tune + " 0 c 0", 1).note(0, 0), tune);
            }
            wrong(start + tunes + " 0 c 0", 18, 2, 1);
            wrong(start + "10 0 c 0", 18, 2, 1);
        }
        Check.sentence("2: note STEP 0 to STEPS - 1");
        for (int steps = 8; steps <= 64; steps += 7) {
            String start = "barrel " + (steps < 10 ? "0" : "") + steps + " 1 0;note 0 ";
            Check.same("step 0", right(start + "0 c 0", 1).note(0, 1), 0);
            Check.same("the last step", right(start + (steps - 1) + " c 0", 1).note(0, 1), steps - 1);
            wrong(start + steps + " c 0", 21, 2, 1);
            wrong(start + (steps + 1) + " c 0", 21, 2, 1);
        }
        Check.sentence("2: the next note, from 0");
        PinBarrel x = right("barrel 8 2 0;note 1 7 c 0;note 0 3 c 0;note 1 0 c 0", 3);
        Check.same("step of note 0", x.note(0, 1), 7);
        Check.same("step of note 1", x.note(1, 1), 3);
        Check.same("step of note 2", x.note(2, 1), 0);
        Check.sentence("2: the same note can be told again");
        Check.same("all count", right(START + ";note 0 3 c 0;note 0 3 c 0;note 0 3 c 0", 3).uses(0, 0), 3);
    }

    private static void pinNumbers() {
        Check.sentence("2: pin, a tooth that was told before");
        wrong(START + ";pin 0 0 0", 21, 2, 1);
        wrong(START + ";pin 0 0 0;tooth c 0 1", 21, 2, 1);
        String tooth = START + ";tooth c 0 1";
        Check.same("tooth 0 of one", right(tooth + ";pin 0 0 0", 0).hasPin(0, 0, 0), true);
        wrong(tooth + ";pin 0 0 1", 33, 2, 2);
        wrong(tooth + ";pin 0 0 1;tooth c 0 1", 33, 2, 2);
        Check.same("tooth 1 of two", right(tooth + ";tooth c 0 1;pin 0 0 1", 0).hasPin(0, 0, 1), true);
        String twelve = START + ";tooth c 0 1".repeat(12);
        Check.same("tooth 11 of twelve", right(twelve + ";pin 0 7 11", 0).hasPin(0, 7, 11), true);
        wrong(twelve + ";pin 0 7 12", twelve.length() + 9, 2, 13);
        Check.sentence("2: pin TUNE and STEP");
        wrong(tooth + ";pin 1 0 0", 29, 2, 2);
        wrong(tooth + ";pin 0 8 0", 31, 2, 2);
        String large = "barrel 64 3 0;tooth c 0 1;pin ";
        Check.same("the last of each", right(large + "2 63 0", 0).hasPin(2, 63, 0), true);
        wrong(large + "3 63 0", 30, 2, 2);
        wrong(large + "2 64 0", 32, 2, 2);
        Check.sentence("2: there is a pin");
        Check.same("told twice it is one", right(tooth + ";pin 0 5 0;pin 0 5 0", 0).size(6), 1);
    }

    private static void spaces() {
        Check.sentence("2: spaces may stand before and after words, numbers and semicolons");
        right("  barrel  8  1  0  ;  speed  2  ;  tooth  c  0  1  ;  note  0  0  c  0  ;  pin  0  0  0  ", 1);
        right(" ".repeat(688) + START, 0);
        right(START + " ".repeat(688), 0);
        Check.sentence("2: spaces are required only between two words and between two numbers");
        right("barrel8 1 0;speed2;tooth c0 1;note0 0c0;pin0 0 0", 1);
        wrong("barrel 81 0", 7, 2, 0);
        wrong("barrel 8 10", 9, 2, 0);
        wrong(START + ";toothc 0 1", 13, 1, 1);
        wrong(START + ";tooth c 01", 23, 1, 1);
        wrong(START + ";tooth c 012", 21, 2, 1);
        wrong("barrel 8 1 0;note 00 c 0", 21, 1, 1);
        Check.sentence("2: a space is byte 32");
        for (int one : new int[] {9, 10, 13, 31, 33, 95, 160, 255}) {
            wrong("barrel" + (char) one + "8 1 0", 6, 1, 0);
            wrong("barrel 8" + (char) one + "1 0", 8, 1, 0);
            wrong(START + (char) one, 12, 1, 0);
            wrong((char) one + START, 0, 1, 0);
            wrong(START + ";" + (char) one + "speed 1", 13, 1, 1);
        }
    }

    private static void maximalRuns() {
        Check.sentence("2: a word is a maximal run of lower-case letters");
        wrong("barre", 0, 1, 0);
        wrong("barrels 8 1 0", 0, 1, 0);
        wrong("abarrel 8 1 0", 0, 1, 0);
        wrong("barrelbarrel 8 1 0", 0, 1, 0);
        wrong("bar rel 8 1 0", 0, 1, 0);
        wrong("BARREL 8 1 0", 0, 1, 0);
        wrong("barreL 8 1 0", 0, 1, 0);
        wrong("barrel` 8 1 0", 6, 1, 0);
        wrong("barrel{ 8 1 0", 6, 1, 0);
        wrong("barrelZ 8 1 0", 6, 1, 0);
        wrong(START + ";tooth a`0 1", 20, 1, 1);
        wrong(START + ";tooth a{0 1", 20, 1, 1);
        wrong(START + ";tooth az0 1", 19, 1, 1);
        Check.sentence("2: a number is a maximal run of digits");
        Check.same("zeros ahead", right("barrel 0000000000000000000064 01 00", 0).size(0), 64);
        Check.same("nothing but zeros", right("barrel 8 1 000000000000", 0).size(2), 0);
        Check.same("9 is a digit", right("barrel 09 1 0", 0).size(0), 9);
        wrong("barrel 8/ 1 0", 8, 1, 0);
        wrong("barrel 8: 1 0", 8, 1, 0);
        wrong("barrel +8 1 0", 7, 1, 0);
        wrong("barrel -8 1 0", 7, 1, 0);
        wrong("barrel 8.0 1 0", 8, 1, 0);
    }

    private static void textsThatEndTooEarly() {
        Check.sentence("2: the text ends too early (position: its length)");
        String[] pieces = {"barrel", " 12", " 1", " 0", ";", "speed", " 2", ";", "tooth", " cis", " 1", " 4", ";",
            "note", " 0", " 11", " ais", " 0", ";", "pin", " 0", " 10", " 0"};
        String text = "";
        int statement = 0;
        for (int i = 0; i <= pieces.length; i++) {
            boolean ended = i == 4 || i == 7 || i == 12 || i == 18 || i == 23;
            for (String behind : new String[] {"", " ", "     "}) {
                if (ended) {
                    right(text + behind, i > 17 ? 1 : 0);
                } else {
                    wrong(text + behind, (text + behind).length(), 1, statement);
                }
            }
            if (i < pieces.length) {
                text += pieces[i];
                statement += pieces[i].equals(";") ? 1 : 0;
            }
        }
        Check.same("a text of 700 spaces", filled("", 700).load(), -800);
        Check.same("a text of 700 bytes that ends too early", filled(START + ";", 700).load(), -800);
    }

    private static void errorPlaces() {
        Check.sentence("2: error 1 at the first byte of what cannot stand there");
        wrong("barrel eight 1 0", 7, 1, 0);
        wrong("barrel 8 ; 1 0", 9, 1, 0);
        wrong("barrel 8 1 0   123", 15, 1, 0);
        wrong(START + ";  123", 15, 1, 1);
        wrong(START + ";  wrong", 15, 1, 1);
        wrong(START + ";tooth 12 0 1", 19, 1, 1);
        wrong(START + ";tooth c d 1", 21, 1, 1);
        wrong(START + ";tooth c 0 d", 23, 1, 1);
        wrong(START + ";tooth c 0 1 d", 25, 1, 1);
        wrong(START + ";note c 0 c 0", 18, 1, 1);
        wrong(START + ";note 0 c c 0", 20, 1, 1);
        wrong(START + ";note 0 0 7 0", 22, 1, 1);
        wrong(START + ";note 0 0 c c", 24, 1, 1);
        wrong(START + ";pin a 0 0", 17, 1, 1);
        wrong(START + ";pin 0 a 0", 19, 1, 1);
        wrong(START + ";pin 0 0 a", 21, 1, 1);
        wrong(START + ";speed a", 19, 1, 1);
        wrong(START + ";speed 1 1", 21, 1, 1);
        Check.sentence("2: error 2 at the first digit");
        wrong("barrel 00065 1 0", 7, 2, 0);
        wrong("barrel   999 1 0", 9, 2, 0);
        wrong("barrel999 1 0", 6, 2, 0);
        wrong(START + ";speed0", 18, 2, 1);
        Check.sentence("2: read from left to right; the first error ends it");
        wrong("barrel 7 9 9", 7, 2, 0);
        wrong("barrel 8 9 x", 9, 2, 0);
        wrong("barrel 7", 7, 2, 0);
        wrong("barrel 8 1 0 x;speed 9", 13, 1, 0);
        wrong(START + ";speed 9;wrong", 19, 2, 1);
        wrong(START + ";note 9 9 h 9", 18, 2, 1);
        wrong(START + ";note 0 9 h 9", 20, 2, 1);
        wrong(START + ";note 0 0 h 9", 22, 1, 1);
        wrong(START + ";pin 0 8 9", 19, 2, 1);
    }

    private static void tooMany() {
        String twelve = START + ";tooth c 0 1".repeat(12);
        Check.sentence("2: at most 12 teeth");
        Check.same("teeth", right(twelve, 0).size(4), 12);
        Check.same("teeth with other statements", right(twelve + ";speed 2;pin 0 0 11;note 0 0 c 0", 1).size(4), 12);
        Check.sentence("2: error 3, a 13th tooth, at the statement's first byte");
        wrong(twelve + ";tooth c 0 1", twelve.length() + 1, 3, 13);
        wrong(twelve + ";  tooth c 0 1", twelve.length() + 3, 3, 13);
        wrong(twelve + ";speed 2;tooth c 0 1", twelve.length() + 9, 3, 14);
        String sixty = START + ";note0 0c0".repeat(60);
        Check.sentence("2: at most 60 notes");
        Check.same("notes", right(sixty, 60).size(5), 60);
        right(sixty + ";tooth c 0 1;speed 3", 60);
        Check.sentence("2: error 3, a 61st note, at the statement's first byte");
        wrong(sixty + ";note 0 0 c 0", sixty.length() + 1, 3, 61);
        wrong(sixty + "; note 0 0 c 0", sixty.length() + 2, 3, 61);
        String tunes = "barrel 8 2 0" + ";note0 0c0".repeat(30) + ";note1 7b1".repeat(30);
        right(tunes, 60);
        wrong(tunes + ";note 1 0 c 0", tunes.length() + 1, 3, 61);
        Check.sentence("2: error 3 is found ahead of its numbers");
        wrong(twelve + ";tooth c 9 99", twelve.length() + 1, 3, 13);
        wrong(twelve + ";tooth 0", twelve.length() + 1, 3, 13);
        wrong(twelve + ";tooth", twelve.length() + 1, 3, 13);
        wrong(sixty + ";note 9 99 h 9", sixty.length() + 1, 3, 61);
        wrong(sixty + ";note", sixty.length() + 1, 3, 61);
    }

    private static void severalErrors() {
        Check.sentence("2: of several errors at one place the one with the smaller number counts");
        wrong(START + " 99", 13, 1, 0);
        wrong(START + ";tooth 99 0 1", 19, 1, 1);
        wrong(START + ";tooth c 0 1 99", 25, 1, 1);
        String twelve = START + ";tooth c 0 1".repeat(12);
        wrong(twelve + ";toothc 0 1", twelve.length() + 1, 1, 13);
        String sixty = START + ";note0 0c0".repeat(60);
        wrong(sixty + ";notes 0 0 c 0", sixty.length() + 1, 1, 61);
    }

    private static void loading() {
        Check.sentence("Promise 3: Returns the number of notes");
        right(START, 0);
        right(START + ";note 0 0 c 0", 1);
        Check.sentence("Promise 3: begins anew; nothing is plucked, and nothing can be taken back");
        PinBarrel x = Whole.rich();
        Check.same("the input of the rich box", x.load(), 1);
        Check.same("all of it", Whole.now(x), Whole.now(Check.box("barrel 9 1 0;note 0 8 b 1")));
        Check.same("actions", x.size(13), 0);
        Check.same("undo()", x.undo(), PinBarrel.NONE);
        Check.same("heard(0, 0)", x.heard(0, 0), PinBarrel.NONE);
        anewBehindPlaying();
        Check.sentence("Promise 3: The buffer is emptied, also on an error");
        Check.same("after a right text", x.append(0L), 0);
        Check.put(x, "barrel");
        Check.same("load()", x.load(), -106);
        Check.same("after a wrong text", x.append(0L), 0);
        Check.sentence("Promise 3: The output and the snapshots stay");
        PinBarrel y = Whole.rich();
        String output = outputOf(y);
        Check.same("the output of the rich box", output, "d0:....o...");
        y.load();
        Check.same("the output", outputOf(y), output);
        Check.same("the snapshots", Whole.kept(y), Whole.kept(Whole.rich()));
        Check.sentence("Promise 3: with an error nothing but the buffer and the results of load changes");
        for (Whole.Part part : new Whole.Part[] {Whole::now, Whole::past, Whole::kept,
            DescriptionEdgeTest::outputOf}) {
            PinBarrel with = Whole.rich();
            Check.put(with, ";tooth c 0 1;note 0 1 d 0;speed 4;pin 0 0 0;speed 9");
            Check.same("a text that goes wrong late", with.load(), -100 - 25 - 50);
            Check.same("a part of the box", part.of(with), part.of(Whole.rich()));
        }
    }

    /** Nothing of what was played, and of what was predicted, is in the box that is loaded. */
    private static void anewBehindPlaying() {
        String loud = "barrel 8 3 3;speed 4" + ";tooth c 0 12".repeat(12) + ";pin 2 0 0;pin 2 1 11;pin 2 2 5";
        String quiet = "barrel 9 2 0" + ";tooth d 0 1".repeat(12);
        PinBarrel x = Check.box(loud);
        x.shift(2);
        x.run(200);
        Check.same("buzzes in 100", x.buzzesIn(100), 39);
        Check.same("firstBuzz", x.firstBuzz(), 0);
        Check.load(x, quiet);
        Check.same("all of it", Whole.now(x), Whole.now(Check.box(quiet)));
        x.addNote(0, 0, 0);
        x.addNote(1, 8, 2);
        x.undo();
        Check.load(x, "barrel 8 3 3");
        Check.same("all of it", Whole.now(x), Whole.now(Check.box("barrel 8 3 3")));
        x.addTooth(0, 12);
        Check.same("no pins on a tooth that is added", x.tooth(0, 3), 0);
        Check.same("no plucks of it", x.tooth(0, 4), 0);
        Check.same("no buzzes of it", x.tooth(0, 5), 0);
        Check.same("no latest one", x.tooth(0, 6), PinBarrel.NONE);
    }

    private static String outputOf(PinBarrel x) {
        StringBuilder text = new StringBuilder();
        for (int i = 0; x.outputByte(i) != PinBarrel.NONE && i < 400; i++) {
            text.append((char) x.outputByte(i));
        }
        return text.toString();
    }

    private static void loadResults() {
        Check.sentence("Promise 4: 0 if there was no such call");
        PinBarrel x = new PinBarrel();
        Check.same("loadError()", x.loadError(), 0);
        Check.put(x, "wrong");
        Check.same("with a wrong text that was not read", x.loadError(), 0);
        Check.sentence("Promise 5: NONE if there was no such call");
        Check.same("loadStatement()", x.loadStatement(), PinBarrel.NONE);
        x.load();
        Check.sentence("Promise 4: of the latest call of load()");
        Check.same("loadError()", x.loadError(), 1);
        Check.load(x, START + ";speed 1;speed 9");
        Check.same("loadError()", x.loadError(), 2);
        Check.sentence("Promise 5: in which statement the latest call of load() found its error");
        Check.same("loadStatement()", x.loadStatement(), 2);
        x.setGap(1);
        x.undo();
        x.saveSnapshot(0);
        x.restoreSnapshot(0);
        Check.same("loadStatement() after other calls", x.loadStatement(), 2);
        Check.same("loadError() after other calls", x.loadError(), 2);
        Check.load(x, START);
        Check.sentence("Promise 4: 0 if the text had no error");
        Check.same("loadError()", x.loadError(), 0);
        Check.sentence("Promise 5: NONE if the text had no error");
        Check.same("loadStatement()", x.loadStatement(), PinBarrel.NONE);
        Check.sentence("Promise 5: a byte behind a statement that is no semicolon belongs to that statement");
        wrong(START + ".", 12, 1, 0);
        wrong(START + "  .;", 14, 1, 0);
        wrong(START + ";speed 2 3;speed 9", 21, 1, 1);
        Check.sentence("Promise 5: what follows a semicolon belongs to the next one, also the end of the text");
        wrong(START + ";.", 13, 1, 1);
        wrong(START + ";", 13, 1, 1);
        wrong(START + ";  ", 15, 1, 1);
        wrong(START + ";speed 2;", 21, 1, 2);
    }

    private static PinBarrel right(String text, int notes) {
        PinBarrel x = new PinBarrel();
        Check.same("load() of \"" + text + "\"", Check.load(x, text), notes);
        Check.same("loadError() of \"" + text + "\"", x.loadError(), 0);
        Check.same("loadStatement() of \"" + text + "\"", x.loadStatement(), PinBarrel.NONE);
        return x;
    }

    private static void wrong(String text, int place, int kind, int statement) {
        PinBarrel x = new PinBarrel();
        Check.same("load() of \"" + text + "\"", Check.load(x, text), -100 - place);
        Check.same("loadError() of \"" + text + "\"", x.loadError(), kind);
        Check.same("loadStatement() of \"" + text + "\"", x.loadStatement(), statement);
    }
}
