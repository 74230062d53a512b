import java.util.function.Supplier;
import java.util.function.ToIntFunction;

/** Counts answers that are not as due, and feeds texts. */
final class Due {
    private static final int[] ODD = {Integer.MIN_VALUE, Integer.MIN_VALUE + 1, -1431655765, -100000, -64, -32, -4, -3, -2, -1,
        0, 1, 2, 3, 4, 5, 6, 7, 8, 9, 10, 16, 21, 31, 32, 33, 41, 64, 101, 2001, 100000, 715827883, 1431655766, Integer.MAX_VALUE - 1, Integer.MAX_VALUE};

    private int wrong = 0;
    private int asked = 0;
    private String sentence = "";

    /** The sentence of the document that the answers behind it belong to. */
    void says(String sentence) {
        this.sentence = sentence;
    }

    void is(String call, long got, long want) {
        asked++;
        if (got != want) {
            wrong++;
            System.out.println((sentence.isEmpty() ? "" : "\"" + sentence + "\" ") + call + " answered " + got + ", due is " + want);
        }
    }

    void is(String call, boolean got, boolean want) {
        is(call, got ? 1 : 0, want ? 1 : 0);
    }

    void is(String call, String got, String want) {
        asked++;
        if (!got.equals(want)) {
            wrong++;
            System.out.println((sentence.isEmpty() ? "" : "\"" + sentence + "\" ") + call + " answered\n  " + got + "\ndue is\n  " + want);
        }
    }

    void end() {
        System.out.println(asked + " answers, " + wrong + " not as due");
        if (wrong != 0) {
            System.exit(1);
        }
    }

    /** Numbers outside least .. most: just outside, and those that go wrong where an index, a shift or a product wraps. */
    static int[] outside(int least, int most) {
        int[] out = new int[ODD.length + 2];
        int n = 0;
        out[n++] = least - 1;
        out[n++] = most + 1;
        for (int odd : ODD) {
            if (odd < least - 1 || odd > most + 1) {
                out[n++] = odd;
            }
        }
        return java.util.Arrays.copyOf(out, n);
    }

    /** A call answers so, and all that can be asked then is as on an object on which it was not made. */
    void changesNothing(String call, Supplier<SealFaces> made, ToIntFunction<SealFaces> asked, int want) {
        SealFaces x = made.get();
        SealFaces other = made.get();
        is(call, asked.applyAsInt(x), want);
        is("all behind " + call, Everything.of(x), Everything.of(other));
        is("all that is kept behind " + call, Everything.kept(x), Everything.kept(other));
    }

    /** Puts the text's bytes behind the tape; what fills the last twenty goes back. */
    static void feed(SealFaces x, String text) {
        int[] w = new int[5];
        int padded = (text.length() + 19) / 20 * 20;
        for (int from = 0; from < padded; from += 20) {
            for (int i = 0; i < 5; i++) {
                w[i] = 0;
                for (int j = 0; j < 4; j++) {
                    int at = from + 4 * i + j;
                    w[i] = w[i] << 8 | (at < text.length() ? text.charAt(at) & 255 : 32);
                }
            }
            x.feed(w[0], w[1], w[2], w[3], w[4]);
        }
        x.back(padded - text.length());
    }

    static int read(SealFaces x, String text) {
        feed(x, text);
        return x.read();
    }

    /** A new object that has read a text without fault. */
    SealFaces told(String text) {
        SealFaces x = new SealFaces();
        is("read of " + text, read(x, text), 0);
        is("place behind " + text, x.place(), -1);
        return x;
    }

    void fault(String text, int number, int place) {
        SealFaces x = new SealFaces();
        is("read of <" + text + ">", read(x, text), number);
        is("place of <" + text + ">", x.place(), place);
        is("tape behind <" + text + ">", x.count(8), 0);
    }
}
