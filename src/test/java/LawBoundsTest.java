/** Bounds of LAWS: what holds, what wraps, what is divided, what a VAR is, what they are held to; LOT. */
public final class LawBoundsTest {
    private static final Due DUE = new Due();
    private static final String[] VARS = {"need", "level", "age", "worth", "feature", "year", "sealed", "which", "print"};
    private static final String MOST = number(Integer.MAX_VALUE);
    private static final String LEAST = number(Integer.MIN_VALUE);

    public static void main(String[] args) {
        firstIfThatHolds();
        lessNotAlike();
        lessByValuesThatWrap();
        wraps();
        roundedTowardsNothing();
        byNothing();
        byNothingNotLookedAt();
        order();
        varsOfEachLaw();
        yearForAll();
        takesHeld();
        growsHeld();
        bindsHeld();
        fadesHeld();
        longAndDeep();
        lots();
        DUE.end();
    }

    /** A number of 32 bits as an E of INTS of 4 digits. */
    private static String number(int v) {
        if (v == Integer.MIN_VALUE) {
            return "(" + number(v + 1) + "-1)";
        }
        int a = Math.abs(v);
        String e = a < 10000 ? String.valueOf(a) : "(" + number(a / 10000) + "*(9999+1)+" + a % 10000 + ")";
        return v < 0 ? "(0-" + e + ")" : e;
    }

    /** What a law of BINDS comes to: of one DEED of WORTH 50, SEALED by CLERK 0. */
    private static int bindsBy(String law) {
        SealFaces x = DUE.told("clerk a 3 9 9 9;deed x 50 5 2 0;binds=" + law + ";");
        x.seal(0, 0);
        return x.deed(0, 8);
    }

    private static void exactly(String e, int v) {
        DUE.is(e + " is " + v, bindsBy("if " + e + "<" + number(v) + " then 1 else if " + number(v) + "<" + e + " then 2 else 3"), 3);
    }

    private static void firstIfThatHolds() {
        DUE.says("the E of the first if that holds (one less than the other), else the last one");
        String[] asked = {"2<1", "1<2"};
        for (int bits = 0; bits < 16; bits++) {
            StringBuilder law = new StringBuilder();
            for (int i = 0; i < 4; i++) {
                law.append("if ").append(asked[bits >> i & 1]).append(" then ").append(10 + i).append(" else ");
            }
            int first = bits == 0 ? 14 : 10 + Integer.numberOfTrailingZeros(bits);
            DUE.is("ifs that hold " + bits, bindsBy(law + "14"), first);
        }
        DUE.is("no if", bindsBy("14"), 14);
        DUE.is("one if that holds", bindsBy("if 1<2 then 5 else 6"), 5);
        DUE.is("one if that does not", bindsBy("if 2<1 then 5 else 6"), 6);
    }

    private static void lessNotAlike() {
        DUE.says("one less than the other");
        DUE.is("one below", bindsBy("if 49<worth then 1 else 2"), 1);
        DUE.is("alike", bindsBy("if 50<worth then 1 else 2"), 2);
        DUE.is("one beyond", bindsBy("if 51<worth then 1 else 2"), 2);
        DUE.is("0 and 0", bindsBy("if 0<0 then 1 else 2"), 2);
        DUE.is("-1 and 0", bindsBy("if 0-1<0 then 1 else 2"), 1);
        DUE.is("0 and -1", bindsBy("if 0<0-1 then 1 else 2"), 2);
    }

    private static void lessByValuesThatWrap() {
        DUE.says("one less than the other");
        // compared as they are, not by what is between them, which would wrap
        DUE.is("the least and the most", bindsBy("if " + LEAST + "<" + MOST + " then 1 else 2"), 1);
        DUE.is("the most and the least", bindsBy("if " + MOST + "<" + LEAST + " then 1 else 2"), 2);
        DUE.is("the least and 1", bindsBy("if " + LEAST + "<1 then 1 else 2"), 1);
        DUE.is("the most and -2", bindsBy("if " + MOST + "<0-2 then 1 else 2"), 2);
    }

    private static void wraps() {
        DUE.says("ints of 32 bits that wrap");
        exactly(MOST, Integer.MAX_VALUE);
        exactly(LEAST, Integer.MIN_VALUE);
        exactly(MOST + "+1", Integer.MIN_VALUE);
        exactly(MOST + "-1", Integer.MAX_VALUE - 1);
        exactly(LEAST + "-1", Integer.MAX_VALUE);
        exactly(LEAST + "+1", Integer.MIN_VALUE + 1);
        exactly(MOST + "*2", -2);
        exactly(LEAST + "*2", 0);
        exactly(LEAST + "*(0-1)", Integer.MIN_VALUE);
        exactly(LEAST + "/(0-1)", Integer.MIN_VALUE);
        exactly(MOST + "*" + MOST, 1);
        exactly("9999*9999*9999", 9999 * 9999 * 9999);
        exactly("256*256*256*128", Integer.MIN_VALUE);
        exactly("256*256*256*127", 127 << 24);
        exactly("256*256*256*256", 0);
        // what wraps on the way is held to no more than what comes out
        DUE.is("beyond and back", bindsBy(MOST + "+10-" + MOST), 10);
        DUE.is("held behind the wrap", bindsBy("256*256*256*128-1"), 99);
        DUE.is("held behind the wrap", bindsBy("256*256*256*128"), 0);
    }

    private static void roundedTowardsNothing() {
        DUE.says("/ rounded towards 0");
        int[][] rows = {{7, 2}, {-7, 2}, {7, -2}, {-7, -2}, {1, 2}, {-1, 2}, {1, -2}, {-1, -2}, {6, 2}, {-6, 2}, {0, 5}, {0, -5}, {9, 10}, {-9, 10},
            {Integer.MAX_VALUE, 2}, {Integer.MIN_VALUE, 2}, {Integer.MIN_VALUE, -1}, {Integer.MIN_VALUE, Integer.MAX_VALUE}, {5, 1}, {5, -1}};
        for (int[] row : rows) {
            exactly(number(row[0]) + "/" + number(row[1]), row[0] / row[1]);
        }
        DUE.is("towards 0, not down", bindsBy("10+(0-7)/2"), 7);
    }

    private static void byNothing() {
        DUE.says("a LAW in which something that is looked at is divided by 0 is 0");
        for (String law : new String[] {"5/0", "0/0", "5+1/0", "1/0+5", "5*(1/0)", "(1/0)*0+5", "5-1/(2-2)", "7/(worth-50)", "50+(1+(2/(3*0)))",
            "if 1/0<2 then 5 else 6", "if 1<2/0 then 5 else 6", "if 1<2 then 5/0 else 6", "if 2<1 then 5 else 6/0",
            "if 2<1 then 5 else if 1/0<2 then 6 else 7", "if 2<1 then 5 else if 2<1 then 6 else if 2<1 then 7 else if 1<1/0 then 8 else 9",
            "if 0/0<1 then 5 else 6", "5/0/0", "5/(0/1)", "5/(1/2)"}) {
            DUE.is(law, bindsBy(law), 0);
        }
        // for the other laws too: a LAW that is 0 takes, grows and fades nothing
        SealFaces x = DUE.told("clerk a 1 9 9 9;deed u 7 5 5 5;takes=5/(1-sealed);grows=9-1/0;fades=9-1/0;");
        DUE.is("takes by 1", x.takes(0, 0, 0), 5);
        x.seal(0, 0);
        DUE.is("takes by 0", x.takes(0, 0, 0), 0);
        x.years(1);
        DUE.is("grows by 0", x.clerk(0, 0), 4);
        DUE.is("fades by 0", x.deed(0, 3), 5);
        // one call by 0 leaves nothing behind for the next
        x = DUE.told("clerk a 1 9 9 9;deed u 7 5 5 5;takes=6/feature;");
        DUE.is("brow", x.takes(0, 0, 0), 0);
        DUE.is("cheek", x.takes(0, 0, 1), 6);
        DUE.is("chin", x.takes(0, 0, 2), 3);
    }

    private static void byNothingNotLookedAt() {
        DUE.says("a LAW in which something that is looked at is divided by 0 is 0");
        DUE.is("what is not taken", bindsBy("if 1<2 then 5 else 6/0"), 5);
        DUE.is("what is not taken", bindsBy("if 2<1 then 5/0 else 6"), 6);
        DUE.is("a later if", bindsBy("if 1<2 then 5 else if 1/0<2 then 6 else 7"), 5);
        DUE.is("a later if's E", bindsBy("if 2<1 then 5/0 else if 1<2 then 6 else 7/0"), 6);
        DUE.is("all three", bindsBy("if 2<1 then 5/0 else if 2<1 then 6/0 else if 2<1 then 7/0 else 8"), 8);
        DUE.is("0 by one is no fault", bindsBy("5+0/7"), 5);
    }

    private static void order() {
        DUE.says("E: PART {('+' | '-') PART}. PART: UNIT {('*' | '/') UNIT}.");
        DUE.is("9-4-3", bindsBy("9-4-3"), 2);
        DUE.is("9-(4-3)", bindsBy("9-(4-3)"), 8);
        DUE.is("72/4/3", bindsBy("72/4/3"), 6);
        DUE.is("72/(4/3)", bindsBy("72/(4/3)"), 72);
        DUE.is("7/2*2", bindsBy("7/2*2"), 6);
        DUE.is("2*7/2", bindsBy("2*7/2"), 7);
        DUE.is("1+2*3-8/4", bindsBy("1+2*3-8/4"), 5);
        DUE.is("(1+2)*(3-8/4)", bindsBy("(1+2)*(3-8/4)"), 3);
    }

    private static final String MANY = "clerk p 1 1 1 1;clerk q 1 1 1 1;clerk r 1 1 1 1;clerk s 1 1 1 1;clerk a 30 9 9 9;"
        + "deed b 1 0 0 0;deed c 1 0 0 0;deed d 1 9 9 9;deed e 1 9 9 9;deed f 1 9 9 9;deed g 50 5 0 8;";

    /** 3 if the VAR is v: of CLERK 4, DEED 5 and the chin in year 6, three DEEDS sealed, the print faded once. */
    private static int byVar(int law, String var, int v) {
        String cmp = "if " + var + "<" + v + " then 1 else if " + v + "<" + var + " then 2 else 3;";
        SealFaces x = DUE.told(MANY + "takes=if year<6 then need else " + cmp + "grows=if year<6 then 0 else " + cmp + "binds=" + cmp
            + "fades=if year<1 then 1 else if year<6 then 0 else " + cmp);
        x.seal(4, 0);
        x.seal(4, 1);
        x.seal(4, 5);
        x.years(6);
        int[] got = {x.takes(4, 5, 2), x.levelIn(4, 2, 1) - x.clerk(4, 2), x.deed(5, 8), x.deed(5, 5) - x.printIn(5, 2, 1)};
        return got[law];
    }

    private static void varsOfEachLaw() {
        DUE.says("a VAR not told for a LAW is 0 in it; year for all");
        int[][] want = {
            // need, level, age, worth, feature, year, sealed, which, print
            {8, 1, 36, 50, 2, 6, 3, 4, 0},
            {0, 1, 36, 0, 2, 6, 3, 4, 0},
            {0, 0, 36, 50, 0, 6, 3, 4, 11},
            {8, 0, 0, 50, 2, 6, 0, 5, 7}};
        String[] laws = {"TAKES", "GROWS", "BINDS", "FADES"};
        for (int law = 0; law < 4; law++) {
            for (int i = 0; i < VARS.length; i++) {
                DUE.is(VARS[i] + " in " + laws[law] + " is " + want[law][i], byVar(law, VARS[i], want[law][i]), 3);
            }
        }
    }

    private static void yearForAll() {
        DUE.says("year for all");
        SealFaces x = DUE.told("clerk a 0 9 9 9;deed u 1 5 5 5;takes=if year<1 then 5 else year-1;grows=year;fades=year;binds=year;");
        x.seal(0, 0);
        DUE.is("binds in year 0", x.deed(0, 8), 0);
        x.years(1);
        DUE.is("grows in year 0", x.clerk(0, 0), 4);
        DUE.is("fades in year 0", x.deed(0, 3), 5);
        DUE.is("takes in year 1", x.takes(0, 0, 0), 0);
        DUE.is("binds in year 1", x.deed(0, 8), 1);
        x.years(1);
        DUE.is("grows in year 1", x.clerk(0, 0), 5);
        DUE.is("fades in year 1", x.deed(0, 3), 4);
        DUE.is("takes in year 2", x.takes(0, 0, 0), 1);
        x.years(40);
        DUE.is("binds in year 42", x.deed(0, 8), 42);
        DUE.is("age in year 42", x.clerk(0, 6), 42);
    }

    private static final String[] ES = {"0-1", "0", "1", "8", "9", "10", "11"};
    private static final int[] HELD = {0, 0, 1, 8, 9, 9, 9};

    private static int takesBy(String law) {
        return DUE.told("clerk a 1 9 9 9;deed u 1 5 5 5;takes=" + law + ";").takes(0, 0, 0);
    }

    private static void takesHeld() {
        DUE.says("TAKES .. held to 0 .. 9");
        for (int i = 0; i < ES.length; i++) {
            DUE.is("takes by " + ES[i], takesBy(ES[i]), HELD[i]);
        }
        DUE.is("takes by the most", takesBy(MOST), 9);
        DUE.is("takes by the least", takesBy(LEAST), 0);
        SealFaces x = DUE.told("clerk a 1 9 9 9;deed u 1 5 5 5;takes=if feature<1 then 0-5 else if feature<2 then 99 else 0;");
        DUE.is("seal", x.seal(0, 0), true);
        DUE.is("less than 0 gives nothing", x.clerk(0, 0), 9);
        DUE.is("a print of 0", x.deed(0, 3), 0);
        DUE.is("more than 9 takes 9", x.clerk(0, 1), 0);
        DUE.is("a print of 9", x.deed(0, 4), 9);
    }

    private static int grownBy(String law) {
        SealFaces x = DUE.told("clerk a 1 9 9 9;deed u 1 9 0 0;grows=" + law + ";");
        x.seal(0, 0);
        x.years(1);
        return x.clerk(0, 0);
    }

    private static void growsHeld() {
        DUE.says("GROWS .. held to 0 .. 9");
        for (int i = 0; i < ES.length; i++) {
            DUE.is("grows by " + ES[i], grownBy(ES[i]), HELD[i]);
        }
        DUE.is("grows by the most", grownBy(MOST), 9);
        DUE.is("grows by the least", grownBy(LEAST), 0);
        SealFaces x = DUE.told("clerk a 1 9 9 9;deed u 1 5 5 5;grows=if feature<1 then 0-1 else if feature<2 then " + MOST + " else " + LEAST + ";");
        x.seal(0, 0);
        x.years(1);
        DUE.is("never less", x.clerk(0, 0), 4);
        DUE.is("the most", x.clerk(0, 1), 9);
        DUE.is("the least", x.clerk(0, 2), 4);
    }

    private static void bindsHeld() {
        DUE.says("BINDS .. held to 0 .. 99");
        String[] es = {"0-1", "0", "1", "98", "99", "100", "101", "9999", MOST, LEAST, "0-9999"};
        int[] held = {0, 0, 1, 98, 99, 99, 99, 99, 99, 0, 0};
        for (int i = 0; i < es.length; i++) {
            DUE.is("binds by " + es[i], bindsBy(es[i]), held[i]);
        }
    }

    private static int fadedBy(String law) {
        SealFaces x = DUE.told("deed u 1 9 9 9;fades=" + law + ";");
        x.forge(0);
        x.years(1);
        return 9 - x.deed(0, 3);
    }

    private static void fadesHeld() {
        DUE.says("FADES .. held to 0 .. 9");
        for (int i = 0; i < ES.length; i++) {
            DUE.is("fades by " + ES[i], fadedBy(ES[i]), HELD[i]);
        }
        DUE.is("fades by the most", fadedBy(MOST), 9);
        DUE.is("fades by the least", fadedBy(LEAST), 0);
    }

    private static void longAndDeep() {
        DUE.says("LAW: '=' {'if' E '<' E 'then' E 'else'} E.");
        // as many values wait as can: two ahead of each ( and two in the innermost one
        String deep = "1";
        for (int i = 0; i < 6; i++) {
            deep = "1+2*(" + deep + "+1*2)";
        }
        exactly(deep, value(6));
        exactly("1+2*(1+2*(1+2*(1+2*(1+2*(1+2*(1+2*3))))))", 511);
        // a long one
        DUE.is("a hundred and more", bindsBy("0" + "+1".repeat(150) + "-1".repeat(33) + "-50"), 67);
        DUE.is("products", bindsBy("1" + "*2".repeat(31) + "/2".repeat(31)), 0);
        DUE.is("products", bindsBy("1" + "*2".repeat(30) + "/2".repeat(30)), 1);
    }

    private static int value(int depth) {
        return depth == 0 ? 1 : 1 + 2 * (value(depth - 1) + 2);
    }

    private static int lot(int seed, int which) {
        int h = seed;
        for (int it : new int[] {189, which}) {
            h = (h ^ it) * 1103515245 + 12345;
            h ^= h >>> 15;
        }
        return (h >>> 1) % 100;
    }

    private static SealFaces slips(int seed, int slips, int years, int deed) {
        SealFaces x = DUE.told("clerk a 1 9 9 9;clerk b 1 9 9 9;deed u 1 1 0 0;deed v 1 1 0 0;deed w 1 1 0 0;deed x 1 1 0 0;deed y 1 1 0 0;deed z 1 1 0 0;"
            + "slips " + slips + ";seed " + seed + ";");
        x.seal(0, deed);
        x.years(years);
        return x;
    }

    private static void lots() {
        DUE.says("LOT n of a SEED and a which");
        int[] seeds = {0, 1, 2, 188, 189, 190, 5000, 9998, 9999};
        for (int seed : seeds) {
            for (int years = 0; years <= 40; years += 8) {
                int deed = (seed + years / 8) % 6;
                int lot = lot(seed, 8 * years + deed);
                DUE.is("slips by one more than the lot " + lot, slips(seed, lot + 1, years, deed).reads(deed), 1);
                DUE.is("no slip by just the lot " + lot, slips(seed, lot, years, deed).reads(deed), 0);
            }
        }
    }
}
