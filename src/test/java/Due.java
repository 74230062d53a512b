/** Counts answers that are not as due, and feeds texts. */
final class Due {
    private int wrong = 0;
    private int asked = 0;

    void is(String call, long got, long want) {
        asked++;
        if (got != want) {
            wrong++;
            System.out.println(call + " answered " + got + ", due is " + want);
        }
    }

    void is(String call, boolean got, boolean want) {
        is(call, got ? 1 : 0, want ? 1 : 0);
    }

    void end() {
        System.out.println(asked + " answers, " + wrong + " not as due");
        if (wrong != 0) {
            System.exit(1);
        }
    }

    /** Puts the text's bytes behind the tape; what fills the last twenty goes back. */
    static void feed(SealFaces x, String text) {
        int[] w = new int[5];
        int padded = (text.length() + 19) / 20 * 20;
        for (int from = 0; from < padded; from += 20) {
            for (int i = 0; i < 5; i++) {
                w[i] = 0;
                for (int j = 0; j < 4; j++) {
                    int at = from + 4 * i + j;
                    w[i] = w[i] << 8 | (at < text.length() ? text.charAt(at) & 255 : 32);
                }
            }
            x.feed(w[0], w[1], w[2], w[3], w[4]);
        }
        x.back(padded - text.length());
    }

    static int read(SealFaces x, String text) {
        feed(x, text);
        return x.read();
    }

    /** A new object that has read a text without fault. */
    SealFaces told(String text) {
        SealFaces x = new SealFaces();
        is("read of " + text, read(x, text), 0);
        return x;
    }

    void fault(String text, int number, int place) {
        SealFaces x = new SealFaces();
        is("read of <" + text + ">", read(x, text), number);
        is("place of <" + text + ">", x.place(), place);
        is("tape behind <" + text + ">", x.count(8), 0);
    }
}
