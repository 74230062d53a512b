/** Bounds of promises 36 to 39: what can be told, how much of it is known, who is left, what to look at. */
public final class ToldBoundsTest {
    private static final Due DUE = new Due();
    // takes of the brow 0 .. 8 by their numbers, of the cheek 5, of the chin 9, 9, 0, 0, 0
    private static final String TEXT = "clerk a 1 9 9 9;clerk b 1 9 9 9;clerk c 1 9 9 9;clerk d 1 9 9 9;clerk e 1 9 9 9;deed u 1 0 0 0;deed v 1 0 0 0;"
        + "takes=if feature<1 then 2*which else if feature<2 then 5 else if which<2 then 9 else 0;";

    public static void main(String[] args) {
        tellRefused();
        tellNumbers();
        tellTwentyAtMost();
        forgetHowMany();
        toldStays();
        whoOthers();
        whoNotOpen();
        knownByK();
        whoByEachLevel();
        whoWhoCan();
        whoOfNobody();
        lookOthers();
        lookNotOpen();
        lookNoneLeft();
        lookAtWorst();
        lookAlike();
        lookByEachLevel();
        DUE.end();
    }

    private static SealFaces some() {
        SealFaces x = new SealFaces();
        Due.read(x, TEXT);
        x.tell(0, 2, true);
        x.tell(2, 1, false);
        x.years(1);
        x.hold(0);
        return x;
    }

    private static void tellRefused() {
        DUE.says("NONE, and nothing happens: 20 are there, no such FEATURE, no such v.");
        for (int feature : Due.outside(0, 2)) {
            DUE.is("tell(" + feature + ", 1, true)", some().tell(feature, 1, true), -1);
            DUE.is("tell(" + feature + ", 1, false)", some().tell(feature, 1, false), -1);
        }
        for (int v : Due.outside(0, 9)) {
            DUE.is("tell(0, " + v + ", true)", some().tell(0, v, true), -1);
            DUE.is("tell(0, " + v + ", false)", some().tell(0, v, false), -1);
        }
        DUE.changesNothing("tell(3, 1, true)", ToldBoundsTest::some, x -> x.tell(3, 1, true), -1);
        DUE.changesNothing("tell(-1, 1, true)", ToldBoundsTest::some, x -> x.tell(-1, 1, true), -1);
        DUE.changesNothing("tell(0, 10, false)", ToldBoundsTest::some, x -> x.tell(0, 10, false), -1);
        DUE.changesNothing("tell(0, -1, false)", ToldBoundsTest::some, x -> x.tell(0, -1, false), -1);
    }

    private static void tellNumbers() {
        DUE.says("It is TOLD: its number");
        SealFaces x = new SealFaces();
        DUE.is("the least of all", x.tell(0, 0, false), 0);
        DUE.is("the most of all", x.tell(2, 9, true), 1);
        DUE.is("the same again", x.tell(2, 9, true), 2);
        DUE.is("count(10)", x.count(10), 3);
        DUE.is("no thing done", x.count(9), 0);
    }

    private static SealFaces twenty() {
        SealFaces x = some();
        for (int n = 2; n < 20; n++) {
            x.tell(0, 1, true);
        }
        return x;
    }

    private static void tellTwentyAtMost() {
        DUE.says("20 at most, numbered from 0 on");
        SealFaces x = DUE.told(TEXT);
        for (int n = 0; n < 20; n++) {
            DUE.is("tell " + n, x.tell(0, 0, true), n);
            DUE.is("count(10)", x.count(10), n + 1);
        }
        DUE.is("a 21st", x.tell(0, 9, true), -1);
        DUE.is("a 22nd", x.tell(0, 9, true), -1);
        DUE.is("count(10)", x.count(10), 20);
        DUE.is("who(20, 0, 0)", x.who(20, 0, 0), 5);
        DUE.is("who(21, 0, 0)", x.who(21, 0, 0), -1);
        DUE.changesNothing("a 21st", ToldBoundsTest::twenty, y -> y.tell(0, 9, true), -1);
        DUE.is("forget()", x.forget(), 20);
        DUE.is("tell anew", x.tell(0, 0, true), 0);
        // the 20th counts
        x = DUE.told(TEXT);
        for (int n = 0; n < 19; n++) {
            x.tell(0, 0, true);
        }
        x.tell(0, 8, true);
        DUE.is("who(19, 0, 1)", x.who(19, 0, 1), 31);
        DUE.is("who(20, 0, 1)", x.who(20, 0, 1), 16);
        DUE.is("look(20, 0, 0)", x.look(20, 0, 0), 0);
    }

    private static void forgetHowMany() {
        DUE.says("All that was TOLD is forgotten: how many there were.");
        SealFaces x = new SealFaces();
        DUE.is("none", x.forget(), 0);
        x.tell(0, 0, true);
        DUE.is("one", x.forget(), 1);
        DUE.is("none then", x.forget(), 0);
        DUE.is("twenty", twenty().forget(), 20);
        x = twenty();
        x.forget();
        DUE.is("count(10)", x.count(10), 0);
        DUE.is("who(1, 0, 0)", x.who(1, 0, 0), -1);
        DUE.is("who(0, 0, 0)", x.who(0, 0, 0), 5);
    }

    private static void toldStays() {
        DUE.says("All that goes on (not what is TOLD, nor the tape)");
        SealFaces x = some();
        x.undo();
        DUE.is("behind undo()", x.count(10), 2);
        x.restore(0);
        DUE.is("behind restore(0)", x.count(10), 2);
        Due.read(x, "!");
        DUE.is("behind a text with a fault", x.count(10), 2);
        Due.read(x, TEXT);
        DUE.is("behind a text", x.count(10), 0);
    }

    private static void whoOthers() {
        DUE.says("WHO, as KNOWN by k: what 0 how many, 1 which (bits); NONE: not open, no such ones.");
        SealFaces x = some();
        for (int k : Due.outside(0, 2)) {
            DUE.is("who(" + k + ", 0, 0)", x.who(k, 0, 0), -1);
            DUE.is("who(" + k + ", 0, 1)", x.who(k, 0, 1), -1);
        }
        for (int deed : Due.outside(0, 1)) {
            DUE.is("who(0, " + deed + ", 0)", x.who(0, deed, 0), -1);
        }
        for (int what : Due.outside(0, 1)) {
            DUE.is("who(0, 0, " + what + ")", x.who(0, 0, what), -1);
        }
        DUE.is("who(2, 1, 0)", x.who(2, 1, 0), 3);
        DUE.is("nothing there", new SealFaces().who(0, 0, 0), -1);
    }

    private static void whoNotOpen() {
        DUE.says("NONE: not open");
        SealFaces x = some();
        x.forge(0);
        DUE.is("forged", x.who(0, 0, 0), -1);
        x.seal(0, 1);
        DUE.is("sealed", x.who(0, 1, 1), -1);
        x.burn(0);
        // a has 4 of the cheek left
        DUE.is("burnt", x.who(0, 0, 1), 30);
    }

    private static void knownByK() {
        DUE.says("KNOWN by k: the first k");
        SealFaces x = DUE.told(TEXT);
        DUE.is("nothing told, k 0", x.who(0, 0, 1), 31);
        DUE.is("nothing told, k 1", x.who(1, 0, 1), -1);
        x.tell(0, 2, true);
        x.tell(0, 7, false);
        x.tell(2, 9, false);
        x.tell(1, 6, true);
        int[] bits = {31, 30, 14, 12, 0};
        for (int k = 0; k < 5; k++) {
            DUE.is("who(" + k + ", 0, 1)", x.who(k, 0, 1), bits[k]);
            DUE.is("who(" + k + ", 0, 0)", x.who(k, 0, 0), Integer.bitCount(bits[k]));
        }
        DUE.is("who(5, 0, 1)", x.who(5, 0, 1), -1);
    }

    private static void whoByEachLevel() {
        DUE.says("that of a PRINT the LEVEL of a FEATURE is v (0 .. 9) or more, or is not");
        for (int v = 0; v <= 9; v++) {
            int bits = 0;
            for (int clerk = 0; clerk < 5; clerk++) {
                bits |= 2 * clerk >= v ? 1 << clerk : 0;
            }
            SealFaces x = DUE.told(TEXT);
            x.tell(0, v, true);
            DUE.is("brow " + v + " or more", x.who(1, 0, 1), bits);
            x.forget();
            x.tell(0, v, false);
            DUE.is("brow not " + v + " or more", x.who(1, 0, 1), 31 ^ bits);
            x.forget();
            x.tell(2, v, true);
            DUE.is("chin " + v + " or more", x.who(1, 0, 1), v == 0 ? 31 : 3);
            x.tell(1, v, true);
            DUE.is("and cheek " + v + " or more", x.who(2, 0, 1), v == 0 ? 31 : v <= 5 ? 3 : 0);
        }
    }

    private static void whoWhoCan() {
        DUE.says("WHO of an open DEED: CLERKS who CAN SEAL it now, by whose TAKES all that is KNOWN would be so");
        SealFaces x = DUE.told("clerk a 1 9 9 9;clerk b 1 5 5 6;clerk c 1 5 5 5;clerk d 1 4 9 9;deed u 1 5 5 5;deed v 1 0 0 0;");
        DUE.is("too little or all bare: not", x.who(0, 0, 1), 3);
        x.tell(0, 5, true);
        DUE.is("known", x.who(1, 0, 1), 3);
        DUE.is("of another deed", x.who(1, 1, 1), 0);
        x.seal(0, 1);
        DUE.is("still", x.who(1, 0, 1), 3);
        x.seal(1, 0);
        x.burn(0);
        DUE.is("who can no more", x.who(1, 0, 1), 1);
    }

    private static void whoOfNobody() {
        DUE.says("WHO, as KNOWN by k: what 0 how many, 1 which (bits)");
        SealFaces x = DUE.told("deed u 1 1 1 1;");
        DUE.is("no clerks: how many", x.who(0, 0, 0), 0);
        DUE.is("no clerks: which", x.who(0, 0, 1), 0);
        x = DUE.told(TEXT);
        x.tell(0, 0, false);
        DUE.is("0 or more is always so", x.who(1, 0, 0), 0);
    }

    private static void lookOthers() {
        DUE.says("LOOK by v (0 .. 9), as KNOWN by k; -2: none is left; NONE: not open, no such ones.");
        SealFaces x = some();
        for (int k : Due.outside(0, 2)) {
            DUE.is("look(" + k + ", 0, 1)", x.look(k, 0, 1), -1);
        }
        for (int deed : Due.outside(0, 1)) {
            DUE.is("look(0, " + deed + ", 1)", x.look(0, deed, 1), -1);
        }
        for (int v : Due.outside(0, 9)) {
            DUE.is("look(0, 0, " + v + ")", x.look(0, 0, v), -1);
        }
        DUE.is("look(2, 1, 9)", x.look(2, 1, 9), 0);
        DUE.is("nothing there", new SealFaces().look(0, 0, 1), -1);
    }

    private static void lookNotOpen() {
        DUE.says("NONE: not open");
        SealFaces x = some();
        x.forge(0);
        DUE.is("forged", x.look(0, 0, 1), -1);
        x.seal(0, 1);
        DUE.is("sealed", x.look(0, 1, 1), -1);
        x.burn(0);
        DUE.is("burnt", x.look(0, 0, 1), 2);
    }

    private static void lookNoneLeft() {
        DUE.says("-2: none is left");
        SealFaces x = DUE.told("deed u 1 1 1 1;");
        DUE.is("no clerks", x.look(0, 0, 1), -2);
        DUE.is("no clerks, no such v", x.look(0, 0, 10), -1);
        x = DUE.told("clerk a 1 1 1 1;deed u 1 1 1 1;");
        DUE.is("who can not", x.look(0, 0, 1), -2);
        x = DUE.told(TEXT);
        x.tell(1, 5, true);
        x.tell(1, 5, false);
        DUE.is("one known", x.look(1, 0, 0), 0);
        DUE.is("both known", x.look(2, 0, 0), -2);
        x.forget();
        x.tell(0, 8, true);
        DUE.is("one is left", x.look(1, 0, 9), 0);
    }

    private static void lookAtWorst() {
        DUE.says("the FEATURE of which, once it is told so, fewest are left, at worst");
        SealFaces x = DUE.told(TEXT);
        // by 8: brow 1 or 4, cheek 0 or 5, chin 2 or 3: at worst 4, 5, 3
        DUE.is("by 8", x.look(0, 0, 8), 2);
        // by 5: brow 2 or 3, cheek 5 or 0, chin 2 or 3
        DUE.is("by 5, the first of 3 and 3", x.look(0, 0, 5), 0);
        x.tell(2, 1, true);
        // a and b are left, brow 0 and 2
        DUE.is("by 2", x.look(1, 0, 2), 0);
        DUE.is("by 3: all alike", x.look(1, 0, 3), 0);
        // brow 0, 1, 1, 1, cheek 0, 0, 1, 1, chin 1 of all
        x = DUE.told("clerk a 1 9 9 9;clerk b 1 9 9 9;clerk c 1 9 9 9;clerk d 1 9 9 9;deed u 1 0 0 0;"
            + "takes=if feature<1 then (which+3)/4 else if feature<2 then which/2 else 1;");
        // by 1: brow 3 and 1 (worst 3), cheek 2 and 2, chin 4 and 0
        DUE.is("by 1, two and two", x.look(0, 0, 1), 1);
    }

    private static void lookAlike() {
        DUE.says("of alike ones the first");
        SealFaces x = DUE.told("clerk a 1 9 9 9;clerk b 1 9 9 9;deed u 1 1 1 1;deed v 1 1 1 1;takes=if feature<1 then 1 else which;");
        DUE.is("all alike", x.look(0, 0, 0), 0);
        DUE.is("cheek as chin", x.look(0, 0, 1), 1);
        DUE.is("none so", x.look(0, 0, 9), 0);
        x = DUE.told("clerk a 1 9 9 9;deed u 1 1 1 1;");
        DUE.is("one left, all alike", x.look(0, 0, 1), 0);
        // a feature behind the chin, by which they would differ, is none
        x = DUE.told("clerk a 1 9 9 9;clerk b 1 9 9 9;deed u 1 1 1 1;takes=if 2<feature then 9*which else if feature<0 then 9*which else 1;");
        DUE.is("three features", x.look(0, 0, 5), 0);
    }

    private static void lookByEachLevel() {
        DUE.says("LOOK by v (0 .. 9)");
        int[] want = {0, 2, 2, 0, 0, 0, 0, 2, 2, 2};
        SealFaces x = DUE.told(TEXT);
        for (int v = 0; v <= 9; v++) {
            // brow: clerks of 2 * which at v or more; chin 2 and 3 from 1 on, cheek never fewer
            DUE.is("look(0, 0, " + v + ")", x.look(0, 0, v), want[v]);
        }
    }
}
