import java.util.ArrayList;
import java.util.List;

/** Bounds of texts: how many of each sort, numbers, ifs, brackets, TOKENS, and FAULTS by their places. */
public final class FaultBoundsTest {
    private static final Due DUE = new Due();
    private static final String SAMPLE = "clerk a 1 2 3 4 ; deed b 5 6 7 8 ; deed c 9 0 1 2 ; treaty b c ; "
        + "takes = if need < 1 + 2 then 3 else if ( level ) < 4 then age / 5 else ( 6 + worth ) * feature - year ; "
        + "grows = sealed ; binds = which ; fades = print ; slips 7 ; seed 8 ;";
    private static final String[] ALL_TOKENS = {"clerk", "deed", "treaty", "takes", "grows", "binds", "fades", "slips", "seed", "if", "then",
        "else", "need", "level", "age", "worth", "feature", "year", "sealed", "which", "print", "b", "zz", "5", "0000", ";", "=", "+", "-",
        "*", "/", "<", "(", ")", "!", "abcdefghi", "12345"};
    private static final String[] LAWS = {"takes", "grows", "binds", "fades"};

    public static void main(String[] args) {
        noTells();
        endInside();
        eachTokenAtEachPlace();
        eachTokenPutInOrLeftOut();
        clerksAtMost();
        deedsAtMost();
        treatiesAtMost();
        sortsWithoutBound();
        agesAndLevels();
        worthsAndNeeds();
        slipsAndSeeds();
        numbered();
        ifsAtMost();
        ifsOfEachLaw();
        bracketsAtMost();
        bracketsInEachE();
        tokensAtMost();
        tokenBehindTheLast();
        firstByPlace();
        leastOfOnePlace();
        endOfText();
        twiceNames();
        twiceTreaties();
        namesToldAhead();
        wrongNumbers();
        lateFaultsByPlace();
        faultsOfNamesOnlyWithoutOthers();
        faultChangesNothing();
        textInPlace();
        fewerThanAhead();
        noTreatiesAnyMore();
        notTold();
        lastOne();
        DUE.end();
    }

    private static String many(String word, int n, String rest) {
        StringBuilder s = new StringBuilder();
        for (int i = 0; i < n; i++) {
            s.append(word).append(' ').append((char) ('a' + i)).append(rest);
        }
        return s.toString();
    }

    private static String clerks(int n) {
        return many("clerk", n, " 1 1 1 1;");
    }

    private static String deeds(int n) {
        return many("deed x", n, " 1 1 1 1;").replace("deed x ", "deed x");
    }

    private static void noTells() {
        DUE.says("text: {TELL}.");
        DUE.told("");
        DUE.told(" ");
        DUE.told("seed 1;");
        DUE.told("seed 1;seed 1;");
        DUE.fault(";", 1, 0);
        DUE.fault("seed 1;;", 1, 7);
    }

    /** Cut behind each TOKEN: no fault behind a ';', else the text's end is one. */
    private static void endInside() {
        DUE.says("the text's end: its length");
        String[] tokens = SAMPLE.split(" ");
        String text = "";
        for (String token : tokens) {
            text = text.isEmpty() ? token : text + " " + token;
            boolean whole = token.equals(";");
            DUE.fault(text, whole ? 0 : 1, whole ? -1 : text.length());
            DUE.fault(text + " \n ", whole ? 0 : 1, whole ? -1 : text.length() + 3);
        }
        DUE.is("tokens of the sample", tokens.length, 75);
    }

    private static void asModel(String text) {
        SealFaces x = new SealFaces();
        Model m = new Model();
        Due.feed(x, text);
        String padded = text + " ".repeat((20 - text.length() % 20) % 20);
        for (int from = 0; from < padded.length(); from += 20) {
            int[] w = new int[5];
            for (int i = 0; i < 20; i++) {
                w[i / 4] = w[i / 4] << 8 | padded.charAt(from + i);
            }
            m.feed(w);
        }
        m.back(padded.length() - text.length());
        DUE.is("read of <" + text + ">", x.read(), m.read());
        DUE.is("place of <" + text + ">", x.place(), m.place());
    }

    private static void eachTokenAtEachPlace() {
        DUE.says("1 SYNTAX: a TOKEN, or what is none, with which no text goes on.");
        String[] tokens = SAMPLE.split(" ");
        for (int i = 0; i < tokens.length; i++) {
            for (String other : ALL_TOKENS) {
                String[] changed = tokens.clone();
                changed[i] = other;
                asModel(String.join(" ", changed));
            }
        }
    }

    private static void eachTokenPutInOrLeftOut() {
        DUE.says("1 SYNTAX: a TOKEN, or what is none, with which no text goes on.");
        String[] tokens = SAMPLE.split(" ");
        for (int i = 0; i < tokens.length; i++) {
            List<String> less = new ArrayList<>(List.of(tokens));
            less.remove(i);
            asModel(String.join(" ", less));
            for (String other : ALL_TOKENS) {
                List<String> more = new ArrayList<>(List.of(tokens));
                more.add(i, other);
                asModel(String.join(" ", more));
            }
        }
    }

    private static void clerksAtMost() {
        DUE.says("CLERKS, 5 at most .. one more of a sort than told (at its first TOKEN)");
        for (int n = 0; n <= 5; n++) {
            SealFaces x = DUE.told(clerks(n));
            DUE.is("count(0)", x.count(0), n);
            DUE.is("the last", x.clerk(n - 1, 6), n == 0 ? -1 : 1);
            DUE.is("behind the last", x.clerk(n, 6), -1);
        }
        DUE.fault(clerks(6), 2, 80);
        DUE.fault(clerks(7), 2, 80);
        DUE.fault(clerks(5) + "  clerk", 2, 82);
        DUE.fault(clerks(5) + "clerk a 1 1 1 1;", 2, 80);
        DUE.fault(clerks(5) + deeds(6) + clerks(1), 2, 80 + 6 * 16);
        DUE.told(clerks(5) + deeds(6));
    }

    private static void deedsAtMost() {
        DUE.says("DEEDS, 6 at most .. one more of a sort than told (at its first TOKEN)");
        for (int n = 0; n <= 6; n++) {
            SealFaces x = DUE.told(deeds(n));
            DUE.is("count(1)", x.count(1), n);
            DUE.is("the last", x.deed(n - 1, 6), n == 0 ? -1 : 1);
            DUE.is("behind the last", x.deed(n, 6), -1);
        }
        DUE.fault(deeds(7), 2, 96);
        DUE.fault(deeds(6) + "\tdeed", 2, 97);
        DUE.fault(deeds(6) + clerks(5) + "deed !", 2, 96 + 80);
    }

    private static void treatiesAtMost() {
        DUE.says("TREATIES, 6 at most .. one more of a sort than told (at its first TOKEN)");
        for (int n = 0; n <= 6; n++) {
            SealFaces x = DUE.told(deeds(2) + "treaty xa xb;".repeat(n));
            DUE.is("count(2)", x.count(2), n);
            DUE.is("the last", x.treaty(n - 1, 1), n == 0 ? -1 : 1);
            DUE.is("behind the last", x.treaty(n, 0), -1);
        }
        DUE.fault(deeds(2) + "treaty xa xb;".repeat(7), 2, 32 + 78);
        DUE.fault(deeds(2) + "treaty xa xb;".repeat(6) + " treaty", 2, 32 + 79);
        // each one counts, whatever is wrong with its names
        DUE.fault("treaty a a;".repeat(7), 2, 66);
        DUE.fault("treaty a a;".repeat(6), 4, 7);
    }

    private static void sortsWithoutBound() {
        DUE.says("the last one");
        SealFaces x = DUE.told("slips 1;seed 1;takes=1;grows=1;binds=1;fades=1;".repeat(17) + "deed b 7 1 1 1;clerk a 1 9 9 9;");
        DUE.is("count(0)", x.count(0), 1);
        DUE.told("seed 1;".repeat(133));
        DUE.told("slips 1;".repeat(133));
        DUE.told("takes=1;".repeat(100));
    }

    private static void agesAndLevels() {
        DUE.says("AGE 0 .. 99, how much they have of the FEATURES .. at first 0 .. 9 each");
        for (int v : new int[] {0, 1, 98, 99}) {
            DUE.is("clerk(0, 6)", DUE.told("clerk a " + v + " 1 2 3;").clerk(0, 6), v);
        }
        for (int v : new int[] {100, 101, 999, 1000, 9999}) {
            DUE.fault("clerk a " + v + " 1 2 3;", 5, 8);
        }
        for (int v : new int[] {0, 1, 8, 9}) {
            SealFaces x = DUE.told("clerk a 1 " + v + " 2 3;clerk b 1 1 " + v + " 3;clerk c 1 1 2 " + v + ";");
            for (int f = 0; f < 3; f++) {
                DUE.is("at first, feature " + f, x.clerk(f, 3 + f), v);
                DUE.is("now, feature " + f, x.clerk(f, f), v);
            }
        }
        for (int v : new int[] {10, 11, 99, 1000}) {
            DUE.fault("clerk a 1 " + v + " 2 3;", 5, 10);
            DUE.fault("clerk a 1 1 " + v + " 3;", 5, 12);
            DUE.fault("clerk a 1 1 2 " + v + ";", 5, 14);
        }
        DUE.fault(clerks(4) + "clerk e 100 1 1 1;", 5, 72);
    }

    private static void worthsAndNeeds() {
        DUE.says("WORTH 0 .. 99, how much they NEED of 0 BROW, 1 CHEEK, 2 CHIN 0 .. 9 each");
        for (int v : new int[] {0, 1, 98, 99}) {
            DUE.is("deed(0, 6)", DUE.told("deed a " + v + " 1 2 3;").deed(0, 6), v);
        }
        for (int v : new int[] {100, 101, 999, 1000, 9999}) {
            DUE.fault("deed a " + v + " 1 2 3;", 5, 7);
        }
        for (int v : new int[] {0, 1, 8, 9}) {
            SealFaces x = DUE.told("deed a 1 " + v + " 2 3;deed b 1 1 " + v + " 3;deed c 1 1 2 " + v + ";");
            for (int f = 0; f < 3; f++) {
                DUE.is("feature " + f, x.deed(f, f), v);
            }
        }
        for (int v : new int[] {10, 11, 99, 1000}) {
            DUE.fault("deed a 1 " + v + " 2 3;", 5, 9);
            DUE.fault("deed a 1 1 " + v + " 3;", 5, 11);
            DUE.fault("deed a 1 1 2 " + v + ";", 5, 13);
        }
        DUE.fault(deeds(5) + "deed a 1 1 1 10;", 5, 93);
    }

    private static void slipsAndSeeds() {
        DUE.says("a reader slips 0 .. 100 (0), SEED 0 .. 9999 (0)");
        for (int v : new int[] {0, 1, 99, 100}) {
            DUE.told("slips " + v + ";");
        }
        for (int v : new int[] {101, 102, 1000, 9999}) {
            DUE.fault("slips " + v + ";", 5, 6);
        }
        DUE.fault("slips 101;slips 100;", 5, 6);
        for (int v : new int[] {0, 1, 9998, 9999}) {
            DUE.told("seed " + v + ";");
        }
        DUE.fault("seed 10000;", 1, 5);
    }

    private static void numbered() {
        DUE.says("numbered each from 0 on as they stand");
        SealFaces x = DUE.told("deed d 10 1 1 1;clerk c 1 1 1 1;deed e 11 1 1 1;clerk b 2 1 1 1;deed a 12 1 1 1;treaty a d;treaty e a;");
        DUE.is("clerk(0, 6)", x.clerk(0, 6), 1);
        DUE.is("clerk(1, 6)", x.clerk(1, 6), 2);
        DUE.is("deed(0, 6)", x.deed(0, 6), 10);
        DUE.is("deed(2, 6)", x.deed(2, 6), 12);
        DUE.is("treaty(0, 0)", x.treaty(0, 0), 2);
        DUE.is("treaty(0, 1)", x.treaty(0, 1), 0);
        DUE.is("treaty(1, 0)", x.treaty(1, 0), 1);
    }

    private static String ifs(int n) {
        return "if 1<2 then 3 else ".repeat(n);
    }

    private static void ifsAtMost() {
        DUE.says("a 5th if of a LAW (at it)");
        for (int n = 0; n <= 4; n++) {
            DUE.told("takes=" + ifs(n) + "4;");
        }
        DUE.fault("takes=" + ifs(5) + "4;", 2, 6 + 4 * 19);
        DUE.fault("takes=" + ifs(6) + "4;", 2, 6 + 4 * 19);
        DUE.fault("takes=" + ifs(4) + "if", 2, 6 + 4 * 19);
        DUE.fault("takes=" + ifs(4) + "if !", 2, 6 + 4 * 19);
        DUE.fault("takes=" + ifs(4) + "if if", 2, 6 + 4 * 19);
        // an if that does not fit is no 5th one
        DUE.fault("takes=" + ifs(4) + "1 if", 1, 6 + 4 * 19 + 2);
        DUE.fault("takes=" + ifs(3) + "if if", 1, 6 + 3 * 19 + 3);
        DUE.fault("takes=" + ifs(4) + "(if", 1, 6 + 4 * 19 + 1);
    }

    private static void ifsOfEachLaw() {
        DUE.says("a 5th if of a LAW (at it)");
        StringBuilder all = new StringBuilder();
        for (String law : LAWS) {
            all.append(law).append('=').append(ifs(4)).append("4;");
            DUE.fault(law + "=" + ifs(5) + "4;", 2, 82);
        }
        DUE.told(all.toString());
        DUE.told(all + all.toString().replace(" 3 ", " 5 "));
        DUE.fault(all + "takes=" + ifs(5) + "4;", 2, all.length() + 82);
        // the fourth one is looked at
        SealFaces x = DUE.told("clerk a 1 9 9 9;deed b 1 1 1 1;takes=if 2<1 then 1 else if 2<2 then 2 else if 3<2 then 3 else if 1<2 then 4 else 5;");
        DUE.is("takes(0, 0, 0)", x.takes(0, 0, 0), 4);
        x = DUE.told("clerk a 1 9 9 9;deed b 1 1 1 1;takes=if 2<1 then 1 else if 2<2 then 2 else if 3<2 then 3 else if 2<2 then 4 else 5;");
        DUE.is("takes(0, 0, 0)", x.takes(0, 0, 0), 5);
    }

    private static void bracketsAtMost() {
        DUE.says("a 7th ( within one another (at it)");
        for (int n = 0; n <= 6; n++) {
            SealFaces x = DUE.told("clerk a 1 9 9 9;deed b 1 1 1 1;takes=" + "(".repeat(n) + "5" + ")".repeat(n) + ";");
            DUE.is("takes(0, 0, 0)", x.takes(0, 0, 0), 5);
        }
        for (int n = 7; n <= 10; n++) {
            DUE.fault("takes=" + "(".repeat(n) + "5" + ")".repeat(n) + ";", 2, 12);
        }
        DUE.fault("takes=((((((  (", 2, 14);
        DUE.fault("takes=((((((1+(", 2, 14);
        DUE.fault("takes=((((((1*2/(", 2, 16);
        // a ( that does not fit is no 7th one
        DUE.fault("takes=((((((1(", 1, 13);
        // closed ones do not count
        DUE.told("takes=(1)+(1)+(1)+(1)+(1)+(1)+(1)+(1);");
        DUE.told("takes=((((((1)))))*(((((2)))))-(((((3)))))*4);");
        DUE.fault("takes=((((((1)))))*((((((2", 2, 24);
        DUE.fault("takes=(1)+((((((2))))))+(((((((3", 2, 30);
    }

    private static void bracketsInEachE() {
        DUE.says("a 7th ( within one another (at it)");
        String six = "((((((1))))))";
        DUE.told("takes=if " + six + "<" + six + " then " + six + " else " + six + ";grows=" + six + ";");
        DUE.fault("takes=if (((((((1", 2, 15);
        DUE.fault("takes=if " + six + "<(((((((1", 2, 29);
        DUE.fault("takes=if 1<2 then (((((((1", 2, 24);
        DUE.fault("takes=if 1<2 then 3 else (((((((1", 2, 31);
    }

    /** Texts of just n TOKENS: takes = 1 + 1 .. ; */
    private static String tokens(int n) {
        return n % 2 == 0 ? "takes=1" + "+1".repeat((n - 4) / 2) + ";" : "seed 1;" + tokens(n - 3);
    }

    private static void tokensAtMost() {
        DUE.says("a 401st TOKEN");
        DUE.told(tokens(398));
        DUE.told(tokens(399));
        DUE.told(tokens(400));
        DUE.told(tokens(400) + " \t\r\n");
        DUE.fault(tokens(401), 2, tokens(401).length() - 1);
        DUE.fault(tokens(402), 2, tokens(402).length() - 2);
        DUE.fault(tokens(500), 2, tokens(400).length());
        // the law that fills the text is kept whole
        SealFaces x = DUE.told("clerk a 1 9 9 9;deed b 1 1 1 1;takes=1000" + "-6".repeat(166) + "+1".repeat(24) + "-22;");
        DUE.is("takes(0, 0, 0)", x.takes(0, 0, 0), 6);
        DUE.is("read", Due.read(x, "clerk a 1 9 9 9;deed b 1 1 1 1;takes=1000" + "-6".repeat(166) + "+1".repeat(24) + "-22+1;"), 2);
    }

    private static void tokenBehindTheLast() {
        DUE.says("a 401st TOKEN .. of one place the least");
        String full = tokens(400);
        int end = full.length();
        for (String word : new String[] {"clerk", "deed", "treaty", "takes", "grows", "binds", "fades", "slips", "seed"}) {
            DUE.fault(full + word, 2, end);
            DUE.fault(full + "  " + word + " !", 2, end + 2);
        }
        for (String word : new String[] {"if", "then", "else", "need", "a", "1", ";", "=", "+", "(", ")", "<", "!", "abcdefghi", "12345", "A"}) {
            DUE.fault(full + word, 1, end);
            DUE.fault(full + "  " + word + " clerk", 1, end + 2);
        }
        // 400 TOKENS that end inside an E: what may come is too much, the end and all else are SYNTAX
        String inside = full.substring(0, end - 1) + "+";
        for (String word : new String[] {"1", "need", "("}) {
            DUE.fault(inside + word, 2, end);
        }
        for (String word : new String[] {"+", ")", ";", "if", "a", "!", ""}) {
            DUE.fault(inside + word, 1, end);
        }
        // a 401st that is a 6th CLERK, a 5th if, a 7th (: ROOM as well
        DUE.fault(clerks(5) + tokens(365) + "clerk", 2, 80 + tokens(365).length());
        // what is no TOKEN ahead of the 401st comes first
        DUE.fault(tokens(390) + "!" + tokens(20), 1, tokens(390).length());
    }

    private static void firstByPlace() {
        DUE.says("FAULTS of a text, the first by its place");
        DUE.fault("! clerk", 1, 0);
        DUE.fault(clerks(5) + "clerk !", 2, 80);
        DUE.fault(clerks(5) + "! clerk", 1, 80);
        DUE.fault("takes=(((((((1;!", 2, 12);
        DUE.fault("takes=!(((((((1;", 1, 6);
        DUE.fault("takes=" + ifs(4) + "if (((((((", 2, 82);
        DUE.fault(deeds(6) + "takes=(((((((1;deed", 2, 96 + 12);
        DUE.fault(deeds(7) + "takes=(((((((1;", 2, 96);
    }

    private static void leastOfOnePlace() {
        DUE.says("of one place the least");
        DUE.fault(tokens(400) + "x", 1, tokens(400).length());
        DUE.fault(tokens(400) + "deed", 2, tokens(400).length());
        // a NAME that is TWICE and a 6th CLERK: the CLERK's word stands ahead of it
        DUE.fault(clerks(5) + "clerk a 1 1 1 1;", 2, 80);
        // TWICE and NAME of one second NAME: such a DEED is told, or it is not
        DUE.fault("treaty a a;", 4, 7);
        DUE.fault("deed a 1 1 1 1;treaty a a;", 3, 24);
    }

    private static void endOfText() {
        DUE.says("a byte; the text's end: its length");
        DUE.fault("clerk", 1, 5);
        DUE.fault("clerk a 1 1 1 1", 1, 15);
        DUE.fault("takes=", 1, 6);
        DUE.fault("takes=if", 1, 8);
        DUE.fault("takes=((((((", 1, 12);
        DUE.fault(" seed ", 1, 6);
        DUE.fault(" ".repeat(1996) + "seed", 1, 2000);
    }

    private static void twiceNames() {
        DUE.says("3 TWICE: a NAME told already (of CLERKS and DEEDS together)");
        String[] ones = {"clerk n 1 1 1 1;", "deed n 1 1 1 1;"};
        for (String one : ones) {
            for (String other : ones) {
                DUE.fault(one + other, 3, one.length() + other.indexOf('n'));
                DUE.fault(one + "clerk m 1 1 1 1;" + other, 3, one.length() + 16 + other.indexOf('n'));
            }
        }
        // the last of all against the first of all
        DUE.fault(clerks(5) + deeds(5) + "deed a 1 1 1 1;", 3, 80 + 80 + 5);
        DUE.fault(deeds(6) + clerks(4) + "clerk xa 1 1 1 1;", 3, 96 + 64 + 6);
        DUE.fault(deeds(6) + clerks(4) + "clerk xf 1 1 1 1;", 3, 96 + 64 + 6);
        DUE.fault(clerks(5) + deeds(5) + "deed e 1 1 1 1;", 3, 80 + 80 + 5);
        // a text's names are forgotten with the text
        SealFaces x = DUE.told(clerks(5) + deeds(6));
        DUE.is("read of the same names", Due.read(x, clerks(5) + deeds(6)), 0);
        DUE.is("read of names told the other way", Due.read(x, clerks(5).replace("clerk", "deed")), 0);
        DUE.is("read with a fault", Due.read(x, clerks(2) + "deed a 1 1 1 1;"), 3);
        DUE.is("read of its names", Due.read(x, clerks(2)), 0);
    }

    private static void twiceTreaties() {
        DUE.says("(at the second NAME) a TREATY of a DEED with itself");
        DUE.fault(deeds(1) + "treaty xa xa;", 3, 16 + 10);
        DUE.fault(deeds(6) + "treaty xf xf;", 3, 96 + 10);
        DUE.fault(deeds(2) + "treaty xa xb;treaty xb xb;", 3, 32 + 13 + 10);
        DUE.told(deeds(2) + "treaty xa xb;treaty xa xb;treaty xb xa;");
    }

    private static void namesToldAhead() {
        DUE.says("4 NAME: (at it) no such DEED told ahead");
        DUE.fault("treaty xa xb;" + deeds(2), 4, 7);
        DUE.fault(deeds(1) + "treaty xa xb;deed xb 1 1 1 1;", 4, 16 + 10);
        DUE.fault(deeds(1) + "treaty xb xa;deed xb 1 1 1 1;", 4, 16 + 7);
        DUE.fault(clerks(1) + deeds(1) + "treaty a xa;", 4, 16 + 16 + 7);
        DUE.fault(clerks(1) + deeds(1) + "treaty xa a;", 4, 16 + 16 + 10);
        DUE.fault(clerks(1) + "treaty a a;", 4, 16 + 7);
        DUE.told(deeds(6) + "treaty xa xf;treaty xf xe;");
        SealFaces x = DUE.told(deeds(2));
        DUE.is("a DEED of the text ahead", Due.read(x, "treaty xa xb;"), 4);
        DUE.says("a NAME told more than once is that of the first one");
        DUE.fault("deed n 1 1 1 1;clerk n 1 1 1 1;treaty n n;", 3, 21);
        DUE.fault("clerk n 1 1 1 1;deed n 1 1 1 1;treaty n n;", 3, 21);
    }

    private static void wrongNumbers() {
        DUE.says("5 WRONG (at the INT): a number not as told above");
        DUE.fault("clerk a 100 10 10 10;", 5, 8);
        DUE.fault("clerk a 99 10 10 10;", 5, 11);
        DUE.fault("clerk a 99 9 10 10;", 5, 13);
        DUE.fault("clerk a 99 9 9 10;", 5, 15);
        DUE.fault("deed a 100 10 10 10;", 5, 7);
        DUE.fault("deed a 99 9 9   10;", 5, 16);
        DUE.fault("slips   101;", 5, 8);
        // an INT of a law is what it is
        DUE.told("takes = 9999*9999;grows=if 9999<1000 then 9999 else 100;");
    }

    private static void lateFaultsByPlace() {
        DUE.says("If there is none, likewise: 3 TWICE .. 4 NAME .. 5 WRONG");
        String twice = clerks(1);
        DUE.fault(clerks(1) + twice + "slips 101;treaty p q;", 3, 22);
        DUE.fault(clerks(1) + "slips 101;" + twice + "treaty p q;", 5, 22);
        DUE.fault(clerks(1) + "treaty p q;" + twice + "slips 101;", 4, 23);
        DUE.fault(clerks(1) + "clerk a 100 1 1 1;", 3, 22);
        DUE.fault(deeds(1) + "treaty xa xa;slips 101;", 3, 26);
        DUE.fault(deeds(1) + "slips 101;treaty xa xa;", 5, 22);
        DUE.fault(deeds(1) + "treaty xb xb;", 4, 23);
    }

    private static void faultsOfNamesOnlyWithoutOthers() {
        DUE.says("If there is none, likewise");
        DUE.fault("slips 101;!", 1, 10);
        DUE.fault("treaty a b;seed", 1, 15);
        DUE.fault("clerk a 100 1 1 1;" + clerks(5), 2, 18 + 64);
        DUE.fault(clerks(1) + clerks(1) + "takes=(((((((1;", 2, 32 + 12);
        DUE.fault("slips 101;" + tokens(398), 2, 10 + tokens(398).length() - 1);
        DUE.fault("slips 101;" + tokens(397), 5, 6);
    }

    /** Something of all that can be going on. */
    private static SealFaces busy() {
        SealFaces x = new SealFaces();
        Due.read(x, "clerk a 30 9 8 7;clerk b 20 9 9 9;deed u 50 3 2 1;deed v 60 1 1 1;deed w 9 4 4 4;treaty u v;"
            + "takes=need+which;grows=1+feature;binds=worth+year;fades=1;slips 100;seed 9;");
        x.seal(0, 0);
        x.years(1);
        x.hold(1);
        x.seal(1, 1);
        x.tell(0, 5, true);
        x.tell(1, 2, false);
        return x;
    }

    private static int readBehindBusy(SealFaces x, String text) {
        int fault = Due.read(x, text);
        Due.read(x, "!");
        return fault;
    }

    private static void faultChangesNothing() {
        DUE.says("A text with a FAULT changes nothing but the tape");
        String all = "clerk q 1 1 1 1;clerk r 2 2 2 2;clerk s 3 3 3 3;deed p 1 1 1 1;takes=1;grows=2;binds=3;fades=4;slips 0;seed 0;";
        String[] faults = {all + "!", all + "takes=(((((((1;", all + "clerk q 1 1 1 1;", all + "treaty p z;", all + "slips 101;"};
        for (int n = 1; n <= 5; n++) {
            String text = faults[n - 1];
            SealFaces x = busy();
            SealFaces other = busy();
            // both end with the same latest fault
            DUE.is("read with fault " + n, readBehindBusy(x, text), n);
            Due.read(other, "!");
            DUE.is("all behind fault " + n, Everything.of(x), Everything.of(other));
            DUE.is("reads behind fault " + n, x.reads(0), other.reads(0));
            DUE.is("bindsIn behind fault " + n, x.bindsIn(3), other.bindsIn(3));
            DUE.is("levelIn behind fault " + n, x.levelIn(0, 2, 1), other.levelIn(0, 2, 1));
            DUE.is("printIn behind fault " + n, x.printIn(0, 0, 1), other.printIn(0, 0, 1));
            DUE.is("takes behind fault " + n, x.takes(1, 2, 0), 5);
            DUE.is("all(-1) behind fault " + n, x.all(-1), other.all(-1));
            DUE.is("who behind fault " + n, x.who(1, 2, 1), other.who(1, 2, 1));
            DUE.is("kept behind fault " + n, Everything.kept(x), Everything.kept(other));
        }
    }

    private static void textInPlace() {
        DUE.says("else it is in place of the one ahead: year 0, nothing sealed; nothing can be undone, nothing is TOLD, SLOTS hold nothing");
        String text = "clerk q 1 5 6 7;deed p 4 3 2 1;deed o 4 3 2 1;treaty o p;";
        SealFaces x = busy();
        x.hold(0);
        x.hold(2);
        DUE.is("count(11)", x.count(11), 3);
        DUE.is("read", Due.read(x, text), 0);
        SealFaces other = DUE.told(text);
        DUE.is("as on a new object", Everything.of(x), Everything.of(other));
        DUE.is("year", x.count(3), 0);
        DUE.is("nothing sealed", x.count(4), 3);
        DUE.is("nothing undone", x.undo(), false);
        DUE.is("nothing told", x.forget(), 0);
        for (int slot = 0; slot < 3; slot++) {
            DUE.is("restore(" + slot + ")", x.restore(slot), false);
        }
        DUE.is("kept as on a new object", Everything.kept(x), Everything.kept(other));
        // fewer of all sorts than ahead, and none
        DUE.is("read of none", Due.read(x, ""), 0);
        DUE.is("as a new object", Everything.of(x), Everything.of(new SealFaces()));
    }

    /** What two larger texts told stays in no corner. */
    private static void fewerThanAhead() {
        DUE.says("else it is in place of the one ahead");
        String large = "clerk a 30 9 9 9;clerk b 20 9 9 9;clerk c 20 9 9 9;clerk d 20 9 9 9;clerk e 20 9 9 9;deed u 50 3 2 1;deed v 60 1 1 1;deed w 9 4 4 4;"
            + "deed x 60 1 1 1;deed y 60 1 1 1;deed z 60 1 1 1;treaty u v;treaty v w;treaty w x;treaty x y;treaty y z;treaty z u;"
            + "takes=need;grows=1+feature;binds=worth+year;fades=1;slips 100;seed 9;";
        String[] small = {"", "clerk a 1 5 5 5;", "deed u 7 1 1 1;", "clerk a 1 5 5 5;deed u 7 5 5 5;", "clerk a 1 5 5 5;clerk b 1 2 2 2;deed u 7 1 1 1;deed v 8 3 3 3;treaty v u;"};
        for (int turn = 0; turn < 2 * small.length; turn++) {
            String text = small[turn / 2];
            SealFaces x = new SealFaces();
            for (int n = 0; n < 2; n++) {
                Due.read(x, large);
                // what was worked out is of deeds that are open, or of none
                for (int d = 0; d < 5 && turn % 2 == 0; d++) {
                    x.seal(d, d);
                    x.forge(5);
                }
            }
            Everything.wouldBe(x);
            SealFaces other = new SealFaces();
            Due.read(x, text);
            Due.read(other, text);
            DUE.is("all behind <" + text + ">", Everything.of(x), Everything.of(other));
            DUE.is("what would be behind <" + text + ">", Everything.wouldBe(x), Everything.wouldBe(other));
            x.seal(0, 0);
            other.seal(0, 0);
            x.forge(1);
            other.forge(1);
            x.years(1);
            other.years(1);
            DUE.is("what would be then, behind <" + text + ">", Everything.wouldBe(x), Everything.wouldBe(other));
        }
    }

    private static void noTreatiesAnyMore() {
        DUE.says("else it is in place of the one ahead");
        String two = "clerk a 1 9 9 9;clerk b 1 9 9 9;deed u 3 1 1 1;deed v 4 1 1 1;deed w 5 1 1 1;";
        for (String treaties : new String[] {"", "treaty u w;"}) {
            SealFaces x = new SealFaces();
            Due.read(x, two + "treaty u v;treaty u v;treaty v u;");
            Due.read(x, two + "treaty u v;treaty u v;treaty v u;");
            Due.read(x, two + treaties);
            x.seal(0, 0);
            x.seal(1, 1);
            DUE.is("count(7)", x.count(7), 0);
            DUE.is("weakest(0)", x.weakest(0), -2);
            DUE.is("breaks(0)", x.breaks(0), 0);
        }
    }

    private static void notTold() {
        DUE.says("LAWS: TAKES (need), GROWS (0), BINDS (worth), FADES (0), if not told .. SLIPS .. (0), SEED .. (0)");
        // behind one that told them all, and behind two
        for (int n = 0; n < 2; n++) {
            SealFaces x = busy();
            if (n == 1) {
                Due.read(x, "takes=1;grows=1;binds=1;fades=1;slips 100;seed 7;");
            }
            notTold(x);
        }
    }

    private static void notTold(SealFaces x) {
        Due.read(x, "clerk a 1 9 9 9;clerk b 1 9 9 9;deed u 50 3 2 1;deed v 99 0 9 8;");
        for (int f = 0; f < 3; f++) {
            DUE.is("takes(0, 0, " + f + ")", x.takes(0, 0, f), 3 - f);
        }
        DUE.is("takes(1, 1, 1)", x.takes(1, 1, 1), 9);
        x.seal(0, 0);
        x.seal(1, 1);
        DUE.is("binds", x.deed(0, 8), 50);
        DUE.is("binds", x.deed(1, 8), 99);
        DUE.is("heals", x.heals(0), -2);
        DUE.is("blank", x.blank(0), -2);
        DUE.is("slips", x.reads(0), 0);
        DUE.is("slips", x.year(1, 20), 20);
        // LOT 100 of seed 0 and 0 is 31
        Due.read(x, "clerk a 1 9 9 9;clerk b 1 9 9 9;deed u 50 3 2 1;slips 31;");
        x.seal(0, 0);
        DUE.is("seed 0", x.reads(0), 0);
        Due.read(x, "clerk a 1 9 9 9;clerk b 1 9 9 9;deed u 50 3 2 1;slips 32;");
        x.seal(0, 0);
        DUE.is("seed 0", x.reads(0), 1);
    }

    private static void lastOne() {
        DUE.says("the last one");
        SealFaces x = DUE.told("takes=1;grows=1;binds=1;fades=1;slips 100;seed 5;clerk a 1 9 9 9;clerk b 1 9 9 9;deed u 50 3 2 1;"
            + "takes=2;grows=3;binds=4;fades=5;takes=6;slips 50;slips 32;seed 9;seed 0;");
        DUE.is("takes", x.takes(0, 0, 0), 6);
        x.seal(0, 0);
        DUE.is("binds", x.deed(0, 8), 4);
        DUE.is("slips, seed: 31 is less than 32", x.reads(0), 1);
        x.years(1);
        DUE.is("grows", x.clerk(0, 0), 6);
        DUE.is("fades", x.deed(0, 3), 1);
        // a law that is told again is told anew: nothing of the longer one ahead stays
        x = DUE.told("clerk a 1 9 9 9;deed u 50 3 2 1;takes=" + ifs(4) + "5+5+5+5;takes=if 2<1 then 1 else 7;");
        DUE.is("takes", x.takes(0, 0, 0), 7);
    }
}
