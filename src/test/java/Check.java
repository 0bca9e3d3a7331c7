/** Compares answers with those that are due, and counts the wrong ones. */
final class Check {
    private static int wrong = 0;
    private static String sentence = "";

    interface Call {
        void make();
    }

    private Check() {
    }

    /** The sentence of the document that the next calls look at; a fault is told under it. */
    static void sentence(String text) {
        sentence = "[" + text + "] ";
    }

    static void same(String call, long got, long want) {
        if (got != want) {
            fault(call + " answered " + got + ", due is " + want);
        }
    }

    static void same(String call, boolean got, boolean want) {
        if (got != want) {
            fault(call + " answered " + got + ", due is " + want);
        }
    }

    static void same(String call, double got, double want) {
        if (got != want) {
            fault(call + " answered " + got + ", due is " + want);
        }
    }

    static void same(String call, String got, String want) {
        if (!got.equals(want)) {
            fault(call + " answered \"" + got + "\", due is \"" + want + "\"");
        }
    }

    static void illegal(String call, Call made) {
        thrown(call, made, "java.lang.IllegalArgumentException");
    }

    static void outside(String call, Call made) {
        thrown(call, made, "java.lang.IndexOutOfBoundsException");
    }

    private static void thrown(String call, Call made, String want) {
        String got = "nothing";
        try {
            made.make();
        } catch (RuntimeException e) {
            got = e.getClass().getName();
        }
        if (!got.equals(want)) {
            fault(call + " threw " + got + ", due is " + want);
        }
    }

    static void fault(String text) {
        wrong++;
        if (wrong <= 40) {
            System.out.println(sentence + text);
        }
    }

    /** Puts a text into the input buffer, eight bytes a call. */
    static int put(PinBarrel box, String text) {
        int length = -1;
        for (int from = 0; from < text.length(); from += 8) {
            long bytes = 0;
            for (int i = from; i < Math.min(from + 8, text.length()); i++) {
                bytes = bytes << 8 | text.charAt(i);
            }
            length = box.append(bytes);
        }
        return length;
    }

    static int load(PinBarrel box, String text) {
        put(box, text);
        return box.load();
    }

    /** A box by a text that must be right. */
    static PinBarrel box(String text) {
        PinBarrel box = new PinBarrel();
        if (load(box, text) < 0) {
            fault("\"" + text + "\" is no right description");
        }
        return box;
    }

    static String output(PinBarrel box, int length) {
        StringBuilder text = new StringBuilder();
        for (int i = 0; i < length; i++) {
            text.append((char) box.outputByte(i));
        }
        same("outputByte behind the end", box.outputByte(length), PinBarrel.NONE);
        return text.toString();
    }

    static void end() {
        if (wrong > 0) {
            System.out.println(wrong + " wrong");
            System.exit(1);
        }
    }
}
