/** Promises 6 to 14 and 40 to 42: what is, what happens, what is undone and held; laws. */
public final class SceneTest {
    private static final Due DUE = new Due();
    private static final String TEXT = "clerk al 40 5 6 7; clerk bo 20 9 0 1; clerk cy 0 9 0 0;"
        + "deed one 30 2 1 0; deed two 60 9 0 0; deed six 12 0 6 3; treaty one two; treaty two six;"
        + "grows = 1; fades = 1;";

    public static void main(String[] args) {
        clerks();
        deeds();
        treaties();
        takesAndVars();
        growsVars();
        bindsVars();
        fadesVars();
        arithmetic();
        seals();
        sealsByHowItWas();
        forges();
        burns();
        years();
        undoes();
        undoesForty();
        holds();
        counts();
        DUE.end();
    }

    private static void clerks() {
        SealFaces x = DUE.told(TEXT);
        int[] want = {5, 6, 7, 5, 6, 7, 40, 0, 0, -1};
        for (int what = 0; what < want.length; what++) {
            DUE.is("clerk(0, " + what + ")", x.clerk(0, what), want[what]);
        }
        x.seal(0, 0);
        x.seal(0, 2);
        // 5 - 2 - 0, 6 - 1 - 0 would need 6: six takes 6 of the cheek, which has 5
        DUE.is("clerk(0, 8)", x.clerk(0, 8), 1);
        x.years(3);
        DUE.is("age now", x.clerk(0, 6), 43);
        DUE.is("clerk(0, 3)", x.clerk(0, 3), 5);
        x.seal(0, 2);
        DUE.is("clerk(0, 7)", x.clerk(0, 7), 2);
        DUE.is("clerk(0, 8)", x.clerk(0, 8), 5);
        DUE.is("clerk(0, 1)", x.clerk(0, 1), 0);
        DUE.is("clerk(3, 0)", x.clerk(3, 0), -1);
        DUE.is("clerk(-1, 0)", x.clerk(-1, 0), -1);
        DUE.is("clerk(0, -1)", x.clerk(0, -1), -1);
        DUE.is("clerk(MAX, MIN)", x.clerk(Integer.MAX_VALUE, Integer.MIN_VALUE), -1);
    }

    private static void deeds() {
        SealFaces x = DUE.told(TEXT);
        int[] open = {2, 1, 0, 0, 0, 0, 30, -2, 0, -1};
        for (int what = 0; what < open.length; what++) {
            DUE.is("open deed(0, " + what + ")", x.deed(0, what), open[what]);
        }
        x.seal(0, 0);
        int[] sealed = {2, 1, 0, 2, 1, 0, 30, 0, 30, -1};
        for (int what = 0; what < sealed.length; what++) {
            DUE.is("sealed deed(0, " + what + ")", x.deed(0, what), sealed[what]);
        }
        x.forge(2);
        int[] forged = {0, 6, 3, 0, 6, 3, 12, -3, 0, -1};
        for (int what = 0; what < forged.length; what++) {
            DUE.is("forged deed(2, " + what + ")", x.deed(2, what), forged[what]);
        }
        DUE.is("deed(3, 0)", x.deed(3, 0), -1);
        DUE.is("deed(-1, 0)", x.deed(-1, 0), -1);
        DUE.is("deed(0, -1)", x.deed(0, -1), -1);
    }

    private static void treaties() {
        SealFaces x = DUE.told("clerk a 1 9 9 9;clerk b 1 9 9 9;deed x 1 1 1 1;deed y 1 1 1 1;deed z 1 1 1 1;treaty z x;treaty x y;");
        DUE.is("treaty(0, 0)", x.treaty(0, 0), 2);
        DUE.is("treaty(0, 1)", x.treaty(0, 1), 0);
        DUE.is("treaty(0, 2)", x.treaty(0, 2), 0);
        x.seal(0, 0);
        DUE.is("one sealed", x.treaty(0, 2), 0);
        x.seal(0, 2);
        DUE.is("both by one clerk", x.treaty(0, 2), 0);
        x.seal(1, 1);
        DUE.is("by unlike clerks", x.treaty(1, 2), 1);
        x.burn(2);
        x.forge(2);
        DUE.is("one forged", x.treaty(0, 2), 0);
        x.burn(0);
        x.forge(0);
        DUE.is("both forged", x.treaty(0, 2), 0);
        DUE.is("treaty(2, 0)", x.treaty(2, 0), -1);
        DUE.is("treaty(-1, 0)", x.treaty(-1, 0), -1);
        DUE.is("treaty(0, 3)", x.treaty(0, 3), -1);
        DUE.is("treaty(0, -1)", x.treaty(0, -1), -1);
    }

    private static int takesBy(String law) {
        SealFaces x = DUE.told("clerk a 3 1 1 1;clerk b 2 9 4 9;deed x 5 1 1 1;deed y 6 0 2 0;takes = " + law + ";");
        x.years(1);
        return x.takes(1, 1, 1);
    }

    private static void takesAndVars() {
        DUE.is("need", takesBy("need"), 2);
        DUE.is("level", takesBy("level"), 4);
        DUE.is("age", takesBy("age"), 3);
        DUE.is("worth", takesBy("worth"), 6);
        DUE.is("feature", takesBy("feature"), 1);
        DUE.is("year", takesBy("year"), 1);
        DUE.is("sealed", takesBy("sealed"), 0);
        DUE.is("which", takesBy("which"), 1);
        DUE.is("print", takesBy("print"), 0);
        DUE.is("held to 9", takesBy("77"), 9);
        DUE.is("held to 0", takesBy("0-1"), 0);
        SealFaces x = DUE.told(TEXT);
        x.seal(0, 0);
        DUE.is("takes of a sealed deed", x.takes(1, 0, 0), 2);
        DUE.is("takes(3, 0, 0)", x.takes(3, 0, 0), -1);
        DUE.is("takes(-1, 0, 0)", x.takes(-1, 0, 0), -1);
        DUE.is("takes(0, 3, 0)", x.takes(0, 3, 0), -1);
        DUE.is("takes(0, -1, 0)", x.takes(0, -1, 0), -1);
        DUE.is("takes(0, 0, 3)", x.takes(0, 0, 3), -1);
        DUE.is("takes(0, 0, -1)", x.takes(0, 0, -1), -1);
        x = DUE.told("clerk a 1 9 9 9;deed x 1 1 1 1;deed y 1 1 1 1;takes = sealed + 1;");
        x.seal(0, 0);
        DUE.is("sealed by that clerk", x.takes(0, 1, 0), 2);
    }

    /** A clerk of 3, 9, 9 at first with 1, 9, 9 left and two deeds sealed grows the brow by a law, a year on. */
    private static int grownBy(String law) {
        SealFaces x = DUE.told("clerk z 1 1 1 1;clerk a 3 9 9 9;deed x 50 5 9 0;deed y 50 3 0 0;grows = if year<1 then 0 else " + law + ";");
        x.seal(1, 0);
        x.seal(1, 1);
        x.years(1);
        int ahead = x.clerk(1, 0);
        x.years(1);
        return x.clerk(1, 0) - ahead;
    }

    private static void growsVars() {
        DUE.is("level", grownBy("level"), 1);
        DUE.is("age", grownBy("age-2"), 2);
        DUE.is("feature", grownBy("5-feature"), 5);
        DUE.is("year", grownBy("year+1"), 2);
        DUE.is("sealed", grownBy("sealed"), 2);
        DUE.is("which", grownBy("which+2"), 3);
        DUE.is("need, worth, print", grownBy("need+worth+print"), 0);
        DUE.is("as much as at first at most", grownBy("99"), 8);
        DUE.is("held to 0", grownBy("0-1"), 0);
    }

    private static int bindsBy(String law) {
        SealFaces x = DUE.told("clerk z 1 1 1 1;clerk a 3 9 9 9;deed w 1 1 1 1;deed x 50 5 2 0;deed y 50 3 0 0;binds = " + law + ";");
        x.seal(1, 1);
        x.seal(1, 2);
        x.years(4);
        return x.deed(1, 8);
    }

    private static void bindsVars() {
        DUE.is("worth", bindsBy("worth"), 50);
        DUE.is("age", bindsBy("age"), 7);
        DUE.is("sealed", bindsBy("sealed"), 2);
        DUE.is("which", bindsBy("which"), 1);
        DUE.is("print", bindsBy("print"), 7);
        DUE.is("year", bindsBy("year"), 4);
        DUE.is("need, level, feature", bindsBy("need+level+feature"), 0);
        DUE.is("held to 99", bindsBy("100"), 99);
        DUE.is("held to 0", bindsBy("0-1"), 0);
        SealFaces x = DUE.told("clerk a 1 9 9 9;deed x 1 1 1 1;deed y 1 1 1 1;binds = 5;");
        x.forge(0);
        DUE.is("forged binds", x.deed(0, 8), 0);
        DUE.is("open binds", x.deed(1, 8), 0);
    }

    /** Of a print of 9 of the cheek of deed 1, that needs 9, a year on. */
    private static int fadedBy(String law) {
        SealFaces x = DUE.told("clerk a 3 9 9 9;deed w 1 1 1 1;deed x 8 1 9 1;fades = if year<2 then 0 else " + law + ";");
        x.seal(0, 1);
        x.years(3);
        return 9 - x.deed(1, 4);
    }

    private static void fadesVars() {
        DUE.is("need", fadedBy("need-4"), 5);
        DUE.is("worth", fadedBy("worth"), 8);
        DUE.is("feature", fadedBy("feature"), 1);
        DUE.is("which", fadedBy("which+2"), 3);
        DUE.is("print", fadedBy("print-7"), 2);
        DUE.is("year", fadedBy("year"), 2);
        DUE.is("level, age, sealed", fadedBy("level+age+sealed"), 0);
        DUE.is("held to 0", fadedBy("0-1"), 0);
        SealFaces x = DUE.told("deed x 8 1 9 3;fades = 2;");
        x.forge(0);
        x.years(1);
        DUE.is("a forged print fades, 0 at least", x.deed(0, 3), 0);
        DUE.is("a forged print fades", x.deed(0, 5), 1);
        DUE.is("what it needs does not", x.deed(0, 1), 9);
    }

    private static void arithmetic() {
        DUE.is("* ahead of +", bindsBy("1+2*3"), 7);
        DUE.is("from the left", bindsBy("20-5-3"), 12);
        DUE.is("/ from the left", bindsBy("90/3/2*5"), 75);
        DUE.is("brackets", bindsBy("20-(5-3)*(1+1)"), 16);
        DUE.is("towards 0", bindsBy("10+(0-7)/2"), 7);
        DUE.is("towards 0 again", bindsBy("10+7/(0-2)"), 7);
        DUE.is("wraps", bindsBy("9999*9999*43-417*9999-3117"), 47);
        DUE.is("far below 0 by -1", bindsBy("if (0-2147*1000*1000)/(0-1)<0 then 7 else 8"), 8);
        String least = "(0-8192*8192*32)";
        DUE.is("the least by -1 wraps", bindsBy("if " + least + "/(0-1)<0 then 7 else 8"), 7);
        DUE.is("by 0", bindsBy("50+1/0"), 0);
        DUE.is("by 0 times 0", bindsBy("50+0*(1/(worth-50))"), 0);
        DUE.is("by 0 not looked at", bindsBy("if 1<2 then 5 else 1/0"), 5);
        DUE.is("by 0 not looked at", bindsBy("if 2<2 then 1/0 else 6"), 6);
        DUE.is("by 0 in what is asked", bindsBy("if 1/0<1 then 5 else 6"), 0);
        DUE.is("by 0 in the other asked", bindsBy("if 1<1/0 then 5 else 6"), 0);
        DUE.is("by 0 in a later if, not looked at", bindsBy("if 1<2 then 5 else if 1/0<1 then 6 else 7"), 5);
        DUE.is("by 0 in a later if", bindsBy("if 2<1 then 5 else if 1/0<1 then 6 else 7"), 0);
        DUE.is("the first if that holds", bindsBy("if 1<2 then 5 else if 1<3 then 6 else 7"), 5);
        DUE.is("the second if", bindsBy("if 2<1 then 5 else if 1<3 then 6 else 7"), 6);
        DUE.is("the fourth if", bindsBy("if 2<1 then 5 else if 3<3 then 6 else if 3<1 then 4 else if 0<1 then 8 else 9"), 8);
        DUE.is("the last one", bindsBy("if 2<1 then 5 else if 3<3 then 6 else 7"), 7);
        DUE.is("deep", bindsBy("1+2*(1+2*(1+2*(1+2*(1+2*(1+2*(1+2*0))))))-100"), 27);
        SealFaces x = DUE.told("clerk a 1 9 9 9;deed x 1 1 1 1;binds = 5;binds = 6;seed 4;seed 5;");
        x.seal(0, 0);
        DUE.is("the last law", x.deed(0, 8), 6);
    }

    private static void seals() {
        SealFaces x = DUE.told(TEXT);
        DUE.is("seal(0, 1): too little brow", x.seal(0, 1), false);
        DUE.is("seal(2, 1): all bare", x.seal(2, 1), false);
        DUE.is("seal(1, 1)", x.seal(1, 1), true);
        DUE.is("seal(0, 1): not open", x.seal(0, 1), false);
        DUE.is("seal(1, 2): no cheek", x.seal(1, 2), false);
        DUE.is("seal(3, 0)", x.seal(3, 0), false);
        DUE.is("seal(-1, 0)", x.seal(-1, 0), false);
        DUE.is("seal(0, 3)", x.seal(0, 3), false);
        DUE.is("seal(0, -1)", x.seal(0, -1), false);
        DUE.is("things done", x.count(9), 1);
        DUE.is("clerk(1, 0)", x.clerk(1, 0), 0);
        DUE.is("clerk(1, 2)", x.clerk(1, 2), 1);
        DUE.is("deed(1, 3)", x.deed(1, 3), 9);
        DUE.is("deed(1, 7)", x.deed(1, 7), 1);
        x.forge(0);
        DUE.is("seal of a forged one", x.seal(0, 0), false);
        x = DUE.told("clerk a 1 0 0 0;deed x 1 0 0 0;");
        DUE.is("who is bare seals nothing", x.seal(0, 0), false);
        x = DUE.told("clerk a 1 0 0 1;deed x 1 0 0 0;");
        DUE.is("a deed that takes nothing", x.seal(0, 0), true);
        x = DUE.told("clerk a 1 5 5 5;deed x 1 5 5 4;");
        DUE.is("just enough", x.seal(0, 0), true);
        DUE.is("bare but for one", x.clerk(0, 2), 1);
        x = DUE.told("clerk a 1 5 5 5;deed x 1 5 5 5;");
        DUE.is("just too much", x.seal(0, 0), false);
    }

    private static void sealsByHowItWas() {
        SealFaces x = DUE.told("clerk a 1 8 6 4;deed x 1 1 1 1;deed y 1 1 1 1;takes = level/2 + sealed;");
        x.seal(0, 0);
        DUE.is("brow", x.deed(0, 3), 4);
        DUE.is("cheek", x.deed(0, 4), 3);
        DUE.is("chin", x.deed(0, 5), 2);
        DUE.is("second", x.seal(0, 1), true);
        DUE.is("brow", x.deed(1, 3), 3);
        DUE.is("cheek", x.deed(1, 4), 2);
        DUE.is("chin", x.deed(1, 5), 2);
        DUE.is("left", x.clerk(0, 0), 1);
    }

    private static void forges() {
        SealFaces x = DUE.told(TEXT + "takes = 9;");
        DUE.is("forge(2)", x.forge(2), true);
        DUE.is("what it needs", x.deed(2, 4), 6);
        DUE.is("forge(2) again", x.forge(2), false);
        DUE.is("forge(3)", x.forge(3), false);
        DUE.is("forge(-1)", x.forge(-1), false);
        DUE.is("count(9)", x.count(9), 1);
        DUE.is("count(12)", x.count(12), 37);
        x = DUE.told(TEXT);
        x.seal(0, 0);
        DUE.is("forge of a sealed one", x.forge(0), false);
        DUE.is("it stays", x.deed(0, 7), 0);
    }

    private static void burns() {
        SealFaces x = DUE.told(TEXT);
        DUE.is("burn of an open one", x.burn(0), false);
        DUE.is("burn(3)", x.burn(3), false);
        DUE.is("burn(-1)", x.burn(-1), false);
        DUE.is("count(9)", x.count(9), 0);
        x.seal(0, 0);
        DUE.is("burn(0)", x.burn(0), true);
        DUE.is("open again", x.deed(0, 7), -2);
        DUE.is("no print", x.count(13), 0);
        DUE.is("what it took is gone", x.clerk(0, 0), 3);
        DUE.is("sealed by none", x.clerk(0, 7), 0);
        x.forge(0);
        DUE.is("burn of a forged one", x.burn(0), true);
        DUE.is("no print", x.count(13), 0);
        DUE.is("sealed once more", x.seal(0, 0), true);
    }

    private static void years() {
        SealFaces x = DUE.told(TEXT);
        x.seal(0, 0);
        x.seal(1, 1);
        DUE.is("years(0)", x.years(0), 0);
        DUE.is("no thing done", x.count(9), 2);
        DUE.is("years(-1)", x.years(-1), -1);
        DUE.is("years(41)", x.years(41), -1);
        DUE.is("nothing happens", x.count(3), 0);
        DUE.is("years(1)", x.years(1), 1);
        int[] want = {4, 6, 7};
        for (int f = 0; f < 3; f++) {
            DUE.is("clerk(0, " + f + ")", x.clerk(0, f), want[f]);
        }
        DUE.is("clerk(1, 0)", x.clerk(1, 0), 1);
        DUE.is("none at first", x.clerk(1, 1), 0);
        DUE.is("deed(0, 3)", x.deed(0, 3), 1);
        DUE.is("deed(0, 4)", x.deed(0, 4), 0);
        DUE.is("deed(1, 3)", x.deed(1, 3), 8);
        DUE.is("years(40)", x.years(40), 41);
        DUE.is("clerk(1, 0)", x.clerk(1, 0), 9);
        DUE.is("deed(1, 3)", x.deed(1, 3), 0);
        DUE.is("sealed still", x.deed(1, 7), 1);
        DUE.is("count(9)", x.count(9), 4);
        x = DUE.told("clerk a 10 9 9 9;deed x 1 5 9 9;grows = if age<12 then 0 else year;fades = year;");
        x.seal(0, 0);
        x.years(2);
        DUE.is("by the age as it began", x.clerk(0, 0), 4);
        DUE.is("by the year as it began", x.deed(0, 3), 4);
        x.years(1);
        DUE.is("the third year", x.clerk(0, 0), 6);
        DUE.is("the third year", x.deed(0, 3), 2);
    }

    private static void undoes() {
        SealFaces x = DUE.told(TEXT);
        DUE.is("undo() of nothing", x.undo(), false);
        x.seal(0, 0);
        x.forge(1);
        x.years(5);
        x.burn(0);
        DUE.is("burn undone", x.undo(), true);
        DUE.is("deed(0, 7)", x.deed(0, 7), 0);
        DUE.is("years undone", x.undo(), true);
        DUE.is("count(3)", x.count(3), 0);
        DUE.is("deed(0, 3)", x.deed(0, 3), 2);
        DUE.is("clerk(0, 0)", x.clerk(0, 0), 3);
        DUE.is("forge undone", x.undo(), true);
        DUE.is("deed(1, 7)", x.deed(1, 7), -2);
        DUE.is("deed(1, 3)", x.deed(1, 3), 0);
        DUE.is("seal undone", x.undo(), true);
        DUE.is("clerk(0, 0)", x.clerk(0, 0), 5);
        DUE.is("deed(0, 7)", x.deed(0, 7), -2);
        DUE.is("undo() of nothing", x.undo(), false);
        x.seal(0, 0);
        x.seal(0, 1);
        x.forge(0);
        x.burn(1);
        x.years(41);
        x.tell(0, 0, true);
        x.hold(0);
        DUE.is("what was not done is not undone", x.count(9), 1);
        DUE.is("told stays", x.undo() ? x.count(10) : -9, 1);
    }

    private static void undoesForty() {
        SealFaces x = DUE.told(TEXT);
        for (int n = 1; n <= 45; n++) {
            x.years(1);
            DUE.is("count(9) after " + n, x.count(9), Math.min(n, 40));
        }
        for (int n = 44; n >= 5; n--) {
            DUE.is("undo()", x.undo(), true);
            DUE.is("count(3)", x.count(3), n);
        }
        DUE.is("the 41st", x.undo(), false);
        DUE.is("count(3)", x.count(3), 5);
        x.years(2);
        DUE.is("undo() of one more", x.undo(), true);
        DUE.is("count(3)", x.count(3), 5);
    }

    private static void holds() {
        SealFaces x = DUE.told(TEXT);
        DUE.is("restore(0) of nothing", x.restore(0), false);
        x.seal(0, 0);
        x.years(1);
        DUE.is("restore(1) of nothing", x.restore(1), false);
        DUE.is("nothing happens", x.count(9), 2);
        DUE.is("hold(0)", x.hold(0), true);
        DUE.is("hold(-1)", x.hold(-1), false);
        DUE.is("hold(3)", x.hold(3), false);
        DUE.is("restore(-1)", x.restore(-1), false);
        DUE.is("restore(3)", x.restore(3), false);
        DUE.is("hold is no thing done", x.count(9), 2);
        x.burn(0);
        x.forge(1);
        x.years(7);
        DUE.is("hold(2)", x.hold(2), true);
        DUE.is("count(11)", x.count(11), 2);
        x.tell(1, 2, false);
        Due.feed(x, "abc");
        DUE.is("restore(0)", x.restore(0), true);
        DUE.is("told stays", x.count(10), 1);
        DUE.is("the tape stays", x.count(8), 3);
        DUE.is("count(3)", x.count(3), 1);
        DUE.is("deed(0, 7)", x.deed(0, 7), 0);
        DUE.is("deed(0, 3)", x.deed(0, 3), 1);
        DUE.is("deed(1, 7)", x.deed(1, 7), -2);
        DUE.is("clerk(0, 0)", x.clerk(0, 0), 4);
        DUE.is("nothing to undo", x.count(9), 0);
        DUE.is("undo()", x.undo(), false);
        x.forge(2);
        DUE.is("a slot stays", x.restore(0), true);
        DUE.is("deed(2, 7)", x.deed(2, 7), -2);
        DUE.is("restore(2)", x.restore(2), true);
        DUE.is("count(3)", x.count(3), 8);
        DUE.is("hold(0) anew", x.hold(0), true);
        x.years(1);
        DUE.is("restore(0)", x.restore(0), true);
        DUE.is("count(3)", x.count(3), 8);
        DUE.is("count(11)", x.count(11), 2);
    }

    private static void counts() {
        SealFaces x = DUE.told(TEXT);
        // cy has 9, 0, 0: seals nothing of six, would be bare by two, lacks the cheek for one
        int[] ahead = {3, 3, 2, 0, 7, 0, 0, 0, 0, 0, 0, 0, 37, 0, 0, 4, -1};
        for (int what = 0; what < ahead.length; what++) {
            DUE.is("count(" + what + ")", x.count(what), ahead[what]);
        }
        x.seal(0, 0);
        x.seal(1, 1);
        x.hold(0);
        x.hold(1);
        x.tell(0, 1, true);
        Due.feed(x, "seed");
        // al has 3, 5, 7, bo 0, 0, 1: nobody has the cheek for six
        int[] then = {3, 3, 2, 0, 4, 0, 90, 1, 4, 2, 1, 2, 25, 12, 4, 7, -1};
        for (int what = 0; what < then.length; what++) {
            DUE.is("count(" + what + ") then", x.count(what), then[what]);
        }
        x.forge(2);
        x.years(1);
        DUE.is("count(3)", x.count(3), 1);
        DUE.is("count(4)", x.count(4), 0);
        DUE.is("count(5)", x.count(5), 4);
        DUE.is("count(14)", x.count(14), 0);
        DUE.is("count(15)", x.count(15), 7);
        DUE.is("count(-1)", x.count(-1), -1);
        DUE.is("count(MIN)", x.count(Integer.MIN_VALUE), -1);
    }
}
