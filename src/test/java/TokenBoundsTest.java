/** Bounds of TOKENS: which bytes, how many letters and digits, words, blanks. */
public final class TokenBoundsTest {
    private static final Due DUE = new Due();
    private static final String[] WORDS = {"clerk", "deed", "treaty", "takes", "grows", "binds", "fades", "slips", "seed", "if", "then",
        "else", "need", "level", "age", "worth", "feature", "year", "sealed", "which", "print"};
    private static final String[] VARS = {"need", "level", "age", "worth", "feature", "year", "sealed", "which", "print"};

    public static void main(String[] args) {
        blanks();
        blanksOrNot();
        longest();
        lettersOfNames();
        lengthsOfNames();
        namesAreTold();
        wordsAreNoNames();
        nearlyWordsAreNames();
        lengthsOfInts();
        zerosAhead();
        digits();
        signs();
        allElse();
        vars();
        DUE.end();
    }

    private static String sign(int b) {
        return String.valueOf((char) b);
    }

    private static void blanks() {
        DUE.says("with blanks (9, 10, 13, 32) between or not");
        for (int b = 0; b < 256; b++) {
            boolean blank = b == 9 || b == 10 || b == 13 || b == 32;
            if (blank) {
                DUE.told("seed" + sign(b) + "1" + sign(b) + ";" + sign(b));
                DUE.told(sign(b));
                DUE.told(sign(b).repeat(3) + "seed" + sign(b).repeat(3) + "1;");
            } else {
                // a letter, a digit or a sign does not fit there either
                boolean digit = b >= '0' && b <= '9';
                boolean letter = b >= 'a' && b <= 'z';
                DUE.fault(sign(b), 1, 0);
                DUE.fault("seed " + sign(b) + ";", digit ? 0 : 1, digit ? -1 : 5);
                DUE.fault("clerk a" + sign(b) + "1 1 1 1;", digit || letter ? 0 : 1, digit || letter ? -1 : 7);
            }
        }
    }

    private static void blanksOrNot() {
        DUE.says("with blanks (9, 10, 13, 32) between or not");
        DUE.told("clerk a1 2 3 4;deed b5 6 7 8;deed c5 6 7 8;treaty b c;takes=if need<1then 2else 3;slips5;seed6;");
        DUE.told(" clerk \t a \n 1 \r 2 3 4 ; takes = if need < 1 then 2 else ( 3 + 4 ) * 5 / 6 - 7 ; ");
        DUE.fault("clerka 1 2 3 4;", 1, 0);
        DUE.fault("clerk a 12 3 4;", 1, 14);
        DUE.fault("treaty bc;", 1, 9);
        DUE.fault("takes=if need<1 then2elsex;", 1, 21);
        DUE.fault("se ed 1;", 1, 0);
        DUE.fault("takes = 1 2;", 1, 10);
    }

    private static void longest() {
        DUE.says("TOKENS, the longest that can be");
        SealFaces x = DUE.told("clerk ab 12 3 4 5;clerk a 1 2 3 4;clerk b 1 2 3 4;");
        DUE.is("clerk(0, 6)", x.clerk(0, 6), 12);
        DUE.fault("ifneed", 1, 0);
        DUE.fault("takes=ifneed<1 then 2 else 3;", 1, 6);
        DUE.fault("takes=needage;", 1, 6);
        DUE.told("takes=need*age;");
        DUE.told("clerk ifneed 1 2 3 4;");
    }

    private static void lettersOfNames() {
        DUE.says("NAMES (letters a .. z");
        for (char c = 'a'; c <= 'z'; c++) {
            DUE.told("clerk " + c + " 1 2 3 4;");
            DUE.told("clerk q" + c + "q 1 2 3 4;");
            char large = (char) (c - 'a' + 'A');
            DUE.fault("clerk " + large + " 1 2 3 4;", 1, 6);
            DUE.fault("clerk q" + large + " 1 2 3 4;", 1, 7);
        }
        // just ahead of a, just behind z, and letters with a highest bit
        for (int b : new int[] {'a' - 1, 'z' + 1, 'a' + 128, 'z' + 128, '_', 'A' - 1, 'Z' + 1}) {
            DUE.fault("clerk " + sign(b) + " 1 2 3 4;", 1, 6);
            DUE.fault("clerk q" + sign(b) + " 1 2 3 4;", 1, 7);
        }
    }

    private static void lengthsOfNames() {
        DUE.says("8 at most .. A longer one, all else, is no TOKEN.");
        for (int n = 1; n <= 20; n++) {
            String name = "qwertyuiopasdfghjklz".substring(0, n);
            DUE.fault("clerk " + name + " 1 2 3 4;", n <= 8 ? 0 : 1, n <= 8 ? -1 : 6);
            DUE.fault("deed " + name + " 1 2 3 4;", n <= 8 ? 0 : 1, n <= 8 ? -1 : 5);
            DUE.fault("deed a 1 2 3 4;treaty a " + name + ";", n <= 8 ? 4 : 1, 24);
            DUE.fault("z" + "a".repeat(n), 1, 0);
        }
        DUE.fault("clerk " + "a".repeat(1994), 1, 6);
        // thirteen letters of 5 bits each fill what holds a name: the first ones must not be lost
        DUE.fault("aaaaaaaaaaaaaseed 1;", 1, 0);
        DUE.fault("zzzzzzzzzseed 1;", 1, 0);
    }

    private static void namesAreTold() {
        DUE.says("NAMES (letters a .. z, 8 at most");
        // alike but for one letter, at each place of eight; shorter ones; one that is another's start
        for (int i = 0; i < 8; i++) {
            StringBuilder other = new StringBuilder("aaaaaaaa");
            other.setCharAt(i, 'b');
            DUE.told("clerk aaaaaaaa 1 1 1 1;clerk " + other + " 1 1 1 1;");
            DUE.told("deed aaaaaaaa 1 1 1 1;deed " + other + " 1 1 1 1;treaty aaaaaaaa " + other + ";");
            other.setLength(i);
            if (i > 0) {
                DUE.told("clerk aaaaaaaa 1 1 1 1;clerk " + "a".repeat(i) + " 1 1 1 1;");
                DUE.fault("deed aaaaaaaa 1 1 1 1;treaty aaaaaaaa " + "a".repeat(i) + ";", 4, 38);
            }
        }
        DUE.fault("clerk zzzzzzzz 1 1 1 1;clerk zzzzzzzz 1 1 1 1;", 3, 29);
        DUE.told("clerk z 1 1 1 1;clerk zz 1 1 1 1;clerk az 1 1 1 1;clerk za 1 1 1 1;");
    }

    private static void wordsAreNoNames() {
        DUE.says("none of the words in quotes");
        DUE.is("words", WORDS.length, 21);
        for (String word : WORDS) {
            DUE.fault("clerk " + word + " 1 2 3 4;", 1, 6);
            DUE.fault("deed " + word + " 1 2 3 4;", 1, 5);
            DUE.fault("treaty " + word + " a;", 1, 7);
            DUE.fault("deed a 1 1 1 1;treaty a " + word + ";", 1, 24);
        }
    }

    private static void nearlyWordsAreNames() {
        DUE.says("none of the words in quotes");
        String[] inWords = {"text", "tell", "name", "int", "law", "part", "unit", "var", "clerks", "takess", "brow", "cheek", "chin", "open", "forged"};
        for (String word : inWords) {
            DUE.told("clerk " + word + " 1 2 3 4;");
        }
        for (String word : WORDS) {
            DUE.told("clerk " + word + "x 1 2 3 4;clerk x" + word + " 1 2 3 4;");
            DUE.told("clerk " + word.substring(1) + " 1 2 3 4;clerk " + word.substring(0, word.length() - 1) + " 1 2 3 4;");
        }
    }

    private static void lengthsOfInts() {
        DUE.says("INTS (1 to 4 digits) .. A longer one, all else, is no TOKEN.");
        DUE.told("seed 1;");
        DUE.told("seed 12;");
        DUE.told("seed 123;");
        DUE.told("seed 1234;");
        DUE.fault("seed 12345;", 1, 5);
        DUE.fault("seed 123456;", 1, 5);
        DUE.fault("seed ;", 1, 5);
        DUE.fault("seed " + "1".repeat(1994) + ";", 1, 5);
        // 2^32 + 1 and 2^31: too many digits, whatever they come to
        DUE.fault("seed 4294967297;", 1, 5);
        DUE.fault("seed 2147483648;", 1, 5);
        DUE.fault("takes = 10000;", 1, 8);
        DUE.told("takes = 9999;");
        DUE.fault("clerk a 00001 1 1 1;", 1, 8);
    }

    private static void zerosAhead() {
        DUE.says("INTS (1 to 4 digits)");
        SealFaces x = DUE.told("clerk a 0099 0009 009 09;deed b 0000 0 00 0001;slips 0100;seed 0000;");
        DUE.is("clerk(0, 6)", x.clerk(0, 6), 99);
        DUE.is("clerk(0, 3)", x.clerk(0, 3), 9);
        DUE.is("clerk(0, 5)", x.clerk(0, 5), 9);
        DUE.is("deed(0, 6)", x.deed(0, 6), 0);
        DUE.is("deed(0, 2)", x.deed(0, 2), 1);
        DUE.fault("slips 00100;", 1, 6);
        DUE.fault("slips 0101;", 5, 6);
        DUE.fault("clerk a 0100 1 1 1;", 5, 8);
        DUE.fault("clerk a 1 0010 1 1;", 5, 10);
    }

    private static void digits() {
        DUE.says("INTS (1 to 4 digits)");
        for (int v = 0; v < 100; v++) {
            SealFaces x = DUE.told("clerk a " + v + " " + v % 10 + " 0 0;");
            DUE.is("clerk(0, 6)", x.clerk(0, 6), v);
            DUE.is("clerk(0, 0)", x.clerk(0, 0), v % 10);
        }
        for (int b : new int[] {'0' - 1, '9' + 1, '0' + 128, 'O', 'a'}) {
            DUE.fault("seed " + sign(b) + ";", 1, 5);
        }
        DUE.fault("seed -1;", 1, 5);
        DUE.fault("seed +1;", 1, 5);
        DUE.fault("seed 1.5;", 1, 6);
    }

    private static void signs() {
        DUE.says("SIGNS ; = + - * / < ( )");
        for (int b = 0; b < 256; b++) {
            boolean joins = "+-*/".indexOf(b) >= 0;
            boolean blank = b == 9 || b == 10 || b == 13 || b == 32;
            boolean digit = b >= '0' && b <= '9';
            // behind one E: joined to the next, one number, an end with more behind it, or a fault
            int place = joins || digit ? -1 : blank || b == ';' ? 8 : 7;
            DUE.fault("takes=1" + sign(b) + "1;", place < 0 ? 0 : 1, place);
            boolean equal = b == '=';
            DUE.fault("takes" + sign(b) + "1;", equal ? 0 : 1, equal ? -1 : blank ? 6 : b >= 'a' && b <= 'z' ? 0 : 5);
            // in what an if asks: less than the next, the one E still (so that < is missed at then), or a fault
            place = b == '<' ? -1 : joins || digit ? 13 : blank ? 11 : 10;
            DUE.fault("takes=if 1" + sign(b) + "2 then 3 else 4;", place < 0 ? 0 : 1, place);
        }
        DUE.told("takes=(1);");
        DUE.fault("takes=(1(;", 1, 8);
        DUE.fault("takes=)1);", 1, 6);
        for (String two : new String[] {"==", "<<", "<=", "//", "/*", "--", "++", "**", ";;"}) {
            DUE.fault("takes=1" + two + "1;", 1, two.equals(";;") || "+-*/".indexOf(two.charAt(0)) >= 0 ? 8 : 7);
        }
    }

    private static void allElse() {
        DUE.says("A longer one, all else, is no TOKEN.");
        for (int b = 0; b < 256; b++) {
            boolean known = b >= 'a' && b <= 'z' || b >= '0' && b <= '9' || ";=+-*/<()".indexOf(b) >= 0 || b == 9 || b == 10 || b == 13 || b == 32;
            if (!known) {
                // at a TELL's first place, inside one, in a law, at the end, and ahead of a 6th CLERK
                DUE.fault("seed 1;" + sign(b), 1, 7);
                DUE.fault("seed 1" + sign(b) + ";", 1, 6);
                DUE.fault("takes=(1" + sign(b) + ");", 1, 8);
                DUE.fault("clerk a 1 1 1 1;clerk b 1 1 1 1;clerk c 1 1 1 1;clerk d 1 1 1 1;clerk e 1 1 1 1;" + sign(b) + "clerk", 1, 80);
            }
        }
    }

    private static void vars() {
        DUE.says("VAR: 'need' | 'level' | 'age' | 'worth' | 'feature' | 'year' | 'sealed' | 'which' | 'print'");
        for (String law : new String[] {"takes", "grows", "binds", "fades"}) {
            for (String var : VARS) {
                DUE.told(law + " = " + var + ";");
            }
            for (String word : WORDS) {
                boolean var = java.util.Arrays.asList(VARS).contains(word);
                if (!var && !word.equals("if")) {
                    DUE.fault(law + "=" + word + ";", 1, 6);
                }
            }
            DUE.fault(law + "=if;", 1, 8);
            DUE.fault(law + "=needs;", 1, 6);
            DUE.fault(law + "=nee;", 1, 6);
        }
    }
}
