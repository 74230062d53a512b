import java.util.function.Supplier;

/** Bounds of promises 6 to 14 and 40 to 42: what is there and what is not, what is refused, what can be undone and held. */
public final class SceneBoundsTest {
    private static final Due DUE = new Due();
    private static final String FULL = "clerk a 1 9 9 9;clerk b 2 9 9 9;clerk c 3 9 9 9;clerk d 4 9 9 9;clerk e 99 9 9 9;"
        + "deed u 99 9 9 8;deed v 99 9 9 8;deed w 99 9 9 8;deed x 99 9 9 8;deed y 99 9 9 8;deed z 99 9 9 9;"
        + "treaty u v;treaty u w;treaty u x;treaty u y;treaty v w;treaty x y;";
    private static final String TWO = "clerk a 40 5 6 7;clerk b 20 9 0 1;deed u 30 2 1 0;deed v 60 9 0 0;deed w 12 5 6 7;treaty u v;grows=1;fades=1;";

    public static void main(String[] args) {
        clerkOthers();
        clerkAsItIs();
        deedOthers();
        deedAsItIs();
        treatyOthers();
        treatyHolds();
        takesOthers();
        takesOfAnyDeed();
        canSealJust();
        canSealNotAllBare();
        canSealByTakes();
        sealedByHowItWas();
        sealRefused();
        forgedPrint();
        forgeRefused();
        burnt();
        burnRefused();
        yearsGoBy();
        yearsRefused();
        noYearsIsNoThing();
        growsAtMost();
        fadesAtLeast();
        yearByHowItBegan();
        yearOfAll();
        undone();
        undoneForty();
        undoOfNone();
        refusedIsNotUndone();
        slotsThereAre();
        slotsHold();
        slotsNotToldNorTape();
        restoredAndGoneOn();
        restoreRefused();
        countOthers();
        countsOfNothing();
        countsAtTheMost();
        DUE.end();
    }

    private static void clerkOthers() {
        DUE.says("Of a CLERK .. NONE for others.");
        SealFaces x = DUE.told(FULL);
        for (int clerk : Due.outside(0, 4)) {
            DUE.is("clerk(" + clerk + ", 0)", x.clerk(clerk, 0), -1);
            DUE.is("clerk(" + clerk + ", 8)", x.clerk(clerk, 8), -1);
        }
        for (int what : Due.outside(0, 8)) {
            DUE.is("clerk(0, " + what + ")", x.clerk(0, what), -1);
            DUE.is("clerk(4, " + what + ")", x.clerk(4, what), -1);
        }
        x = DUE.told(TWO);
        for (int clerk : Due.outside(0, 1)) {
            DUE.is("clerk(" + clerk + ", 6)", x.clerk(clerk, 6), -1);
        }
    }

    private static void clerkAsItIs() {
        DUE.says("what 0 .. 2 LEVELS now, 3 .. 5 at first, 6 age now, 7 how many DEEDS are SEALED by them, 8 these (bits)");
        SealFaces x = DUE.told("clerk a 99 9 8 7;clerk b 0 0 0 1;deed u 1 0 0 0;deed v 1 0 0 0;deed w 1 0 0 0;deed x 1 0 0 0;deed y 1 0 0 0;deed z 1 9 7 5;");
        for (int d = 0; d < 6; d++) {
            DUE.is("seal(0, " + d + ")", x.seal(0, d), true);
            DUE.is("how many", x.clerk(0, 7), d + 1);
            DUE.is("which", x.clerk(0, 8), (2 << d) - 1);
        }
        x.years(40);
        int[] want = {0, 1, 2, 9, 8, 7, 139, 6, 63};
        int[] other = {0, 0, 1, 0, 0, 1, 40, 0, 0};
        for (int what = 0; what < 9; what++) {
            DUE.is("clerk(0, " + what + ")", x.clerk(0, what), want[what]);
            DUE.is("clerk(1, " + what + ")", x.clerk(1, what), other[what]);
        }
        x.burn(5);
        x.forge(5);
        DUE.is("forged ones do not count", x.clerk(0, 7), 5);
        DUE.is("forged ones do not count", x.clerk(0, 8), 31);
    }

    private static void deedOthers() {
        DUE.says("Of a DEED .. NONE for others.");
        SealFaces x = DUE.told(FULL);
        for (int deed : Due.outside(0, 5)) {
            DUE.is("deed(" + deed + ", 0)", x.deed(deed, 0), -1);
            DUE.is("deed(" + deed + ", 7)", x.deed(deed, 7), -1);
            DUE.is("deed(" + deed + ", 8)", x.deed(deed, 8), -1);
        }
        for (int what : Due.outside(0, 8)) {
            DUE.is("deed(0, " + what + ")", x.deed(0, what), -1);
            DUE.is("deed(5, " + what + ")", x.deed(5, what), -1);
        }
        x = DUE.told(TWO);
        for (int deed : Due.outside(0, 2)) {
            DUE.is("deed(" + deed + ", 6)", x.deed(deed, 6), -1);
        }
    }

    private static void deedAsItIs() {
        DUE.says("what 0 .. 2 NEEDS, 3 .. 5 LEVELS of its PRINT, 6 WORTH, 7 who SEALED it (-2: open, -3: FORGED), 8 BINDS");
        SealFaces x = DUE.told("clerk a 1 9 9 9;clerk b 1 9 9 9;clerk c 1 9 9 9;clerk d 1 9 9 9;clerk e 1 9 9 9;deed u 99 9 0 3;takes=need/3;");
        int[][] want = {{9, 0, 3, 0, 0, 0, 99, -2, 0}, {9, 0, 3, 3, 0, 1, 99, 4, 99}, {9, 0, 3, 9, 0, 3, 99, -3, 0}};
        for (int state = 0; state < 3; state++) {
            if (state == 1) {
                x.seal(4, 0);
            } else if (state == 2) {
                x.burn(0);
                x.forge(0);
            }
            for (int what = 0; what < 9; what++) {
                DUE.is("deed(0, " + what + "), state " + state, x.deed(0, what), want[state][what]);
            }
        }
        x.burn(0);
        x.seal(0, 0);
        DUE.is("by the first CLERK", x.deed(0, 7), 0);
    }

    private static void treatyOthers() {
        DUE.says("Of a TREATY .. NONE for others.");
        SealFaces x = DUE.told(FULL);
        for (int treaty : Due.outside(0, 5)) {
            for (int what = 0; what < 3; what++) {
                DUE.is("treaty(" + treaty + ", " + what + ")", x.treaty(treaty, what), -1);
            }
        }
        for (int what : Due.outside(0, 2)) {
            DUE.is("treaty(0, " + what + ")", x.treaty(0, what), -1);
            DUE.is("treaty(5, " + what + ")", x.treaty(5, what), -1);
        }
        int[][] want = {{0, 1}, {0, 2}, {0, 3}, {0, 4}, {1, 2}, {3, 4}};
        for (int t = 0; t < 6; t++) {
            DUE.is("treaty(" + t + ", 0)", x.treaty(t, 0), want[t][0]);
            DUE.is("treaty(" + t + ", 1)", x.treaty(t, 1), want[t][1]);
            DUE.is("treaty(" + t + ", 2)", x.treaty(t, 2), 0);
        }
        x = DUE.told("deed u 1 1 1 1;");
        DUE.is("without one", x.treaty(0, 0), -1);
    }

    private static void treatyHolds() {
        DUE.says("A TREATY HOLDS if both its DEEDS are SEALED, by unlike CLERKS.");
        // open, by the first, by the other, forged: of both deeds
        for (int one = 0; one < 4; one++) {
            for (int other = 0; other < 4; other++) {
                SealFaces x = DUE.told("clerk a 1 9 9 9;clerk b 1 9 9 9;deed u 1 1 1 1;deed v 1 1 1 1;treaty v u;");
                put(x, 0, one);
                put(x, 1, other);
                boolean holds = one == 1 && other == 2 || one == 2 && other == 1;
                DUE.is("treaty(0, 2) by " + one + " and " + other, x.treaty(0, 2), holds ? 1 : 0);
                DUE.is("count(7) by " + one + " and " + other, x.count(7), holds ? 1 : 0);
            }
        }
    }

    private static void put(SealFaces x, int deed, int how) {
        if (how == 3) {
            x.forge(deed);
        } else if (how > 0) {
            x.seal(how - 1, deed);
        }
    }

    private static void takesOthers() {
        DUE.says("TAKES now (of any DEED); NONE: no such ones.");
        SealFaces x = DUE.told(FULL);
        for (int clerk : Due.outside(0, 4)) {
            DUE.is("takes(" + clerk + ", 0, 0)", x.takes(clerk, 0, 0), -1);
        }
        for (int deed : Due.outside(0, 5)) {
            DUE.is("takes(0, " + deed + ", 0)", x.takes(0, deed, 0), -1);
        }
        for (int feature : Due.outside(0, 2)) {
            DUE.is("takes(0, 0, " + feature + ")", x.takes(0, 0, feature), -1);
        }
        DUE.is("takes(4, 5, 2)", x.takes(4, 5, 2), 9);
        DUE.is("takes(0, 0, 0)", x.takes(0, 0, 0), 9);
        DUE.is("no clerks", DUE.told("deed u 1 1 1 1;").takes(0, 0, 0), -1);
        DUE.is("no deeds", DUE.told("clerk a 1 1 1 1;").takes(0, 0, 0), -1);
    }

    private static void takesOfAnyDeed() {
        DUE.says("TAKES now (of any DEED)");
        SealFaces x = DUE.told("clerk a 1 9 9 9;clerk b 1 0 0 0;deed u 1 3 2 1;takes=need+sealed;");
        DUE.is("open, who can not", x.takes(1, 0, 0), 3);
        x.seal(0, 0);
        DUE.is("sealed, by the one who did", x.takes(0, 0, 0), 4);
        DUE.is("sealed, by another", x.takes(1, 0, 1), 2);
        x.burn(0);
        x.forge(0);
        DUE.is("forged", x.takes(0, 0, 2), 1);
    }

    private static boolean seals(String levels, String needs) {
        return DUE.told("clerk a 1 " + levels + ";deed u 1 " + needs + ";").seal(0, 0);
    }

    private static void canSealJust() {
        DUE.says("A CLERK CAN SEAL an open DEED if of each FEATURE their LEVEL is no less than TAKES");
        DUE.is("brow one below", seals("4 9 9", "5 1 1"), false);
        DUE.is("brow at it", seals("5 9 9", "5 1 1"), true);
        DUE.is("brow one beyond", seals("6 9 9", "5 1 1"), true);
        DUE.is("cheek one below", seals("9 4 9", "1 5 1"), false);
        DUE.is("cheek at it", seals("9 5 9", "1 5 1"), true);
        DUE.is("cheek one beyond", seals("9 6 9", "1 5 1"), true);
        DUE.is("chin one below", seals("9 9 4", "1 1 5"), false);
        DUE.is("chin at it", seals("9 9 5", "1 1 5"), true);
        DUE.is("chin one beyond", seals("9 9 6", "1 1 5"), true);
        DUE.is("much of others does not help", seals("0 9 9", "1 0 0"), false);
        DUE.is("nothing of one, nothing taken", seals("0 9 9", "0 1 1"), true);
        SealFaces x = DUE.told("clerk a 1 9 9 9;deed u 1 9 9 8;");
        DUE.is("hands(0)", x.hands(0), 1);
        DUE.is("seal(0, 0)", x.seal(0, 0), true);
        DUE.is("what is left", x.clerk(0, 0) + x.clerk(0, 1) + x.clerk(0, 2), 1);
    }

    private static void canSealNotAllBare() {
        DUE.says("and not all LEVELS would be 0 behind that");
        DUE.is("all bare", seals("5 4 3", "5 4 3"), false);
        DUE.is("brow left", seals("5 4 3", "4 4 3"), true);
        DUE.is("cheek left", seals("5 4 3", "5 3 3"), true);
        DUE.is("chin left", seals("5 4 3", "5 4 2"), true);
        DUE.is("bare ahead, takes nothing", seals("0 0 0", "0 0 0"), false);
        DUE.is("one of one left, takes nothing", seals("0 1 0", "0 0 0"), true);
        DUE.is("takes the last one", seals("0 1 0", "0 1 0"), false);
        DUE.is("9 of all", seals("9 9 9", "9 9 9"), false);
        // too little of one and too much of another is not evened out
        DUE.is("one less than 0, one more", seals("4 6 3", "5 4 3"), false);
    }

    private static void canSealByTakes() {
        DUE.says("A CLERK CAN SEAL an open DEED if of each FEATURE their LEVEL is no less than TAKES");
        SealFaces x = DUE.told("clerk a 1 5 5 5;deed u 1 9 9 9;deed v 1 0 0 0;takes=if need<9 then 9 else 1;");
        DUE.is("by TAKES, not by NEEDS", x.seal(0, 0), true);
        DUE.is("by TAKES, not by NEEDS", x.seal(0, 1), false);
        x = DUE.told("clerk a 1 9 9 9;deed u 1 1 1 1;takes=level;");
        DUE.is("all that there is", x.seal(0, 0), false);
        x = DUE.told("clerk a 1 9 9 9;deed u 1 1 1 1;takes=99;");
        DUE.is("more than there can be is 9, all bare", x.seal(0, 0), false);
        x = DUE.told("clerk a 1 9 9 9;deed u 1 1 1 1;takes=if feature<2 then 99 else 8;");
        DUE.is("held to 9 ahead", x.seal(0, 0), true);
    }

    private static void sealedByHowItWas() {
        DUE.says("then each LEVEL is TAKES less, all by how it was ahead; the PRINT has so much of each");
        SealFaces x = DUE.told("clerk a 1 8 6 4;clerk b 1 3 3 3;deed u 1 1 1 1;deed v 1 1 1 1;takes=level/2+sealed+which;");
        DUE.is("seal(0, 0)", x.seal(0, 0), true);
        int[] want = {4, 3, 2, 4, 3, 2};
        for (int f = 0; f < 3; f++) {
            DUE.is("clerk(0, " + f + ")", x.clerk(0, f), want[f]);
            DUE.is("deed(0, " + (3 + f) + ")", x.deed(0, 3 + f), want[3 + f]);
            DUE.is("clerk(1, " + f + ") stays", x.clerk(1, f), 3);
            DUE.is("deed(1, " + (3 + f) + ") stays", x.deed(1, 3 + f), 0);
        }
    }

    private static SealFaces some() {
        SealFaces x = new SealFaces();
        Due.read(x, TWO);
        x.seal(0, 0);
        x.years(1);
        x.hold(1);
        x.forge(1);
        x.tell(0, 4, true);
        Due.feed(x, "abc");
        return x;
    }

    private static void sealRefused() {
        DUE.says("SEALED: true; false, and nothing happens: they CAN not, no such ones.");
        Supplier<SealFaces> some = SceneBoundsTest::some;
        DUE.changesNothing("seal of one sealed", some, x -> x.seal(1, 0) ? 1 : 0, 0);
        DUE.changesNothing("seal of one sealed by them", some, x -> x.seal(0, 0) ? 1 : 0, 0);
        DUE.changesNothing("seal of one forged", some, x -> x.seal(1, 1) ? 1 : 0, 0);
        DUE.changesNothing("seal with too little", some, x -> x.seal(1, 2) ? 1 : 0, 0);
        for (int n : Due.outside(0, 1)) {
            DUE.is("seal(" + n + ", 2)", some().seal(n, 2), false);
        }
        for (int n : Due.outside(0, 2)) {
            DUE.is("seal(0, " + n + ")", some().seal(0, n), false);
        }
        DUE.changesNothing("seal(2, 2)", some, x -> x.seal(2, 2) ? 1 : 0, 0);
        DUE.changesNothing("seal(-1, 2)", some, x -> x.seal(-1, 2) ? 1 : 0, 0);
        DUE.changesNothing("seal(0, 3)", some, x -> x.seal(0, 3) ? 1 : 0, 0);
        DUE.changesNothing("seal(0, -1)", some, x -> x.seal(0, -1) ? 1 : 0, 0);
        Supplier<SealFaces> bare = () -> {
            SealFaces x = new SealFaces();
            Due.read(x, "clerk a 1 5 5 5;deed u 1 5 5 5;");
            return x;
        };
        DUE.changesNothing("seal that leaves all bare", bare, x -> x.seal(0, 0) ? 1 : 0, 0);
    }

    private static void forgedPrint() {
        DUE.says("A FORGED one: the PRINT has, of each FEATURE, what the DEED NEEDS.");
        SealFaces x = DUE.told("clerk a 1 1 1 1;deed u 1 9 0 5;deed v 1 0 0 0;takes=1;");
        int levels = x.count(12);
        DUE.is("forge(0)", x.forge(0), true);
        DUE.is("forge(1)", x.forge(1), true);
        DUE.is("brow", x.deed(0, 3), 9);
        DUE.is("cheek", x.deed(0, 4), 0);
        DUE.is("chin", x.deed(0, 5), 5);
        DUE.is("no face gives for it", x.count(12), levels);
        DUE.is("which are", x.count(5), 3);
        DUE.is("count(9)", x.count(9), 2);
        DUE.is("without clerks", DUE.told("deed u 1 9 9 9;").forge(0), true);
    }

    private static void forgeRefused() {
        DUE.says("FORGED: true; false, and nothing happens: not open, no such DEED.");
        Supplier<SealFaces> some = SceneBoundsTest::some;
        DUE.changesNothing("forge of one sealed", some, x -> x.forge(0) ? 1 : 0, 0);
        DUE.changesNothing("forge of one forged", some, x -> x.forge(1) ? 1 : 0, 0);
        DUE.changesNothing("forge(3)", some, x -> x.forge(3) ? 1 : 0, 0);
        DUE.changesNothing("forge(-1)", some, x -> x.forge(-1) ? 1 : 0, 0);
        for (int n : Due.outside(0, 2)) {
            DUE.is("forge(" + n + ")", some().forge(n), false);
        }
        DUE.is("forge(2)", some().forge(2), true);
    }

    private static void burnt() {
        DUE.says("one that is not open is burnt: it is open again, what it took is gone");
        SealFaces x = some();
        int left = x.count(12);
        DUE.is("burn(0)", x.burn(0), true);
        DUE.is("open", x.deed(0, 7), -2);
        DUE.is("no print", x.deed(0, 3) + x.deed(0, 4) + x.deed(0, 5), 0);
        DUE.is("nothing comes back", x.count(12), left);
        DUE.is("not sealed by them", x.clerk(0, 7), 0);
        DUE.is("burn(1)", x.burn(1), true);
        DUE.is("open", x.deed(1, 7), -2);
        DUE.is("count(4)", x.count(4), 7);
        DUE.is("count(5)", x.count(5), 0);
        DUE.is("forged anew", x.forge(1), true);
        DUE.is("sealed anew", x.seal(0, 0), true);
    }

    private static void burnRefused() {
        DUE.says("Burnt: true; false, and nothing happens: open, no such DEED.");
        Supplier<SealFaces> some = SceneBoundsTest::some;
        DUE.changesNothing("burn of one open", some, x -> x.burn(2) ? 1 : 0, 0);
        DUE.changesNothing("burn(3)", some, x -> x.burn(3) ? 1 : 0, 0);
        DUE.changesNothing("burn(-1)", some, x -> x.burn(-1) ? 1 : 0, 0);
        for (int n : Due.outside(0, 2)) {
            DUE.is("burn(" + n + ")", some().burn(n), false);
        }
    }

    private static void yearsGoBy() {
        DUE.says("n YEARS (0 .. 40; 0 is no thing done) go by: which it is");
        SealFaces x = DUE.told(TWO);
        DUE.is("years(0)", x.years(0), 0);
        DUE.is("years(1)", x.years(1), 1);
        DUE.is("years(39)", x.years(39), 40);
        DUE.is("years(40)", x.years(40), 80);
        DUE.is("years(0)", x.years(0), 80);
        DUE.is("count(3)", x.count(3), 80);
        DUE.is("one thing each", x.count(9), 3);
        // n at once are n one by one
        SealFaces one = some();
        SealFaces other = some();
        one.years(5);
        for (int i = 0; i < 5; i++) {
            other.years(1);
        }
        for (int what : new int[] {3, 4, 5, 6, 12, 13}) {
            DUE.is("count(" + what + ")", one.count(what), other.count(what));
        }
        DUE.is("new object, years(40)", new SealFaces().years(40), 40);
    }

    private static void yearsRefused() {
        DUE.says("NONE, and nothing happens: no such n.");
        for (int n : Due.outside(0, 40)) {
            DUE.is("years(" + n + ")", some().years(n), -1);
        }
        DUE.changesNothing("years(41)", SceneBoundsTest::some, x -> x.years(41), -1);
        DUE.changesNothing("years(-1)", SceneBoundsTest::some, x -> x.years(-1), -1);
    }

    private static void noYearsIsNoThing() {
        DUE.says("0 is no thing done");
        DUE.changesNothing("years(0)", SceneBoundsTest::some, x -> x.years(0), 1);
        SealFaces x = new SealFaces();
        x.years(0);
        DUE.is("undo()", x.undo(), false);
        x.years(1);
        DUE.is("undo()", x.undo(), true);
    }

    private static void growsAtMost() {
        DUE.says("each LEVEL of a CLERK is GROWS more, as much as at first at most");
        SealFaces x = DUE.told("clerk a 1 9 8 7;deed u 1 3 2 1;grows=2;");
        x.seal(0, 0);
        x.years(1);
        DUE.is("two more, one below", x.clerk(0, 0), 8);
        DUE.is("two more, just as at first", x.clerk(0, 1), 8);
        DUE.is("one more, as two would be beyond", x.clerk(0, 2), 7);
        x.years(1);
        for (int f = 0; f < 3; f++) {
            DUE.is("as at first", x.clerk(0, f), 9 - f);
        }
        x.years(40);
        for (int f = 0; f < 3; f++) {
            DUE.is("no more", x.clerk(0, f), 9 - f);
        }
        x = DUE.told("clerk a 1 0 0 0;grows=9;");
        x.years(40);
        DUE.is("nothing at first, nothing grows", x.count(12), 0);
    }

    private static void fadesAtLeast() {
        DUE.says("each LEVEL of a PRINT is FADES less (0 at least)");
        SealFaces x = DUE.told("deed u 1 3 2 1;deed v 1 9 9 9;fades=2;");
        x.forge(0);
        x.years(1);
        DUE.is("one left", x.deed(0, 3), 1);
        DUE.is("just 0", x.deed(0, 4), 0);
        DUE.is("0 at least", x.deed(0, 5), 0);
        x.years(40);
        DUE.is("0 at least", x.deed(0, 3), 0);
        DUE.is("an open one has none", x.deed(1, 3), 0);
        DUE.is("forged still", x.deed(0, 7), -3);
        x = DUE.told("deed u 1 3 2 1;fades=0-1;");
        x.forge(0);
        x.years(9);
        DUE.is("never more", x.deed(0, 3), 3);
        DUE.is("an open one never more", DUE.told("deed u 1 3 2 1;fades=0-5;").printIn(0, 0, 5), 0);
    }

    private static void yearByHowItBegan() {
        DUE.says("A YEAR, all by how it was as it began .. It is the next year.");
        SealFaces x = DUE.told("clerk a 7 9 9 9;deed u 1 5 6 7;grows=if age<8 then 1 else level;fades=if year<1 then 1 else print-1;");
        x.seal(0, 0);
        x.years(1);
        DUE.is("by the age as it began", x.clerk(0, 0), 5);
        DUE.is("by the year as it began", x.deed(0, 3), 4);
        x.years(1);
        DUE.is("by the level as it began", x.clerk(0, 1), 8);
        DUE.is("by the print as it began", x.deed(0, 5), 1);
        DUE.is("age now", x.clerk(0, 6), 9);
        DUE.is("the next year", x.count(3), 2);
    }

    private static void yearOfAll() {
        DUE.says("each LEVEL of a CLERK is GROWS more .. each LEVEL of a PRINT is FADES less");
        SealFaces x = DUE.told("clerk a 1 9 8 7;clerk b 2 8 8 8;clerk c 3 7 8 9;clerk d 4 9 9 9;clerk e 5 8 7 8;"
            + "deed u 9 7 6 5;deed v 9 6 6 6;deed w 9 5 6 7;deed x 9 7 7 7;deed y 9 6 5 6;deed z 9 9 8 7;grows=1;fades=2;");
        for (int d = 0; d < 5; d++) {
            x.seal(d, d);
        }
        x.forge(5);
        x.years(1);
        int[][] prints = {{5, 4, 3}, {4, 4, 4}, {3, 4, 5}, {5, 5, 5}, {4, 3, 4}, {7, 6, 5}};
        for (int f = 0; f < 3; f++) {
            for (int clerk = 0; clerk < 5; clerk++) {
                DUE.is("clerk(" + clerk + ", " + f + ")", x.clerk(clerk, f), 3);
            }
            for (int deed = 0; deed < 6; deed++) {
                DUE.is("deed(" + deed + ", " + (3 + f) + ")", x.deed(deed, 3 + f), prints[deed][f]);
            }
        }
    }

    private static void undone() {
        DUE.says("The last thing done (seal, forge, burn, years) is undone: true");
        SealFaces x = DUE.told(TWO);
        String start = Everything.of(x);
        x.seal(0, 0);
        DUE.is("undo() of seal", x.undo(), true);
        DUE.is("as ahead", Everything.of(x), start);
        x.forge(1);
        DUE.is("undo() of forge", x.undo(), true);
        DUE.is("as ahead", Everything.of(x), start);
        x.years(40);
        DUE.is("undo() of years", x.undo(), true);
        DUE.is("as ahead", Everything.of(x), start);
        DUE.is("undo() of none", x.undo(), false);
        DUE.is("as ahead", Everything.of(x), start);
        x = DUE.told(TWO);
        x.seal(0, 0);
        String sealed = Everything.of(x);
        x.burn(0);
        DUE.is("undo() of burn", x.undo(), true);
        DUE.is("as ahead", Everything.of(x), sealed);
        x.forge(1);
        String forged = Everything.of(x);
        x.burn(1);
        DUE.is("undo() of burn of one forged", x.undo(), true);
        DUE.is("as ahead", Everything.of(x), forged);
    }

    private static void undoneForty() {
        DUE.says("the last 40 can be");
        for (int things : new int[] {39, 40, 41, 79, 80, 81}) {
            SealFaces x = new SealFaces();
            for (int n = 0; n < things; n++) {
                x.years(1);
            }
            int can = Math.min(things, 40);
            DUE.is("count(9) behind " + things, x.count(9), can);
            for (int n = 1; n <= can; n++) {
                DUE.is("undo() " + n + " of " + things, x.undo(), true);
                DUE.is("count(9)", x.count(9), can - n);
            }
            DUE.is("count(3)", x.count(3), things - can);
            DUE.is("one more undo()", x.undo(), false);
            DUE.is("count(3)", x.count(3), things - can);
        }
        // undone and done again around the bound
        SealFaces x = new SealFaces();
        for (int n = 0; n < 45; n++) {
            x.years(1);
        }
        for (int n = 0; n < 10; n++) {
            x.undo();
        }
        DUE.is("count(9)", x.count(9), 30);
        for (int n = 0; n < 10; n++) {
            x.years(2);
        }
        DUE.is("count(9)", x.count(9), 40);
        x.years(2);
        DUE.is("count(9)", x.count(9), 40);
        DUE.is("count(3)", x.count(3), 57);
        for (int n = 0; n < 40; n++) {
            DUE.is("undo()", x.undo(), true);
        }
        DUE.is("count(3)", x.count(3), 6);
        DUE.is("undo()", x.undo(), false);
    }

    private static void undoOfNone() {
        DUE.says("false: there is none");
        DUE.is("of a new object", new SealFaces().undo(), false);
        SealFaces x = DUE.told(TWO);
        DUE.is("of a text just read", x.undo(), false);
        x.hold(0);
        x.tell(0, 0, true);
        x.forget();
        x.all(-1);
        DUE.is("what is no thing done", x.undo(), false);
        x.years(1);
        x.hold(0);
        x.restore(0);
        DUE.is("gone on from a slot", x.undo(), false);
        x.years(1);
        Due.read(x, TWO);
        DUE.is("behind another text", x.undo(), false);
        x.years(1);
        Due.read(x, "!");
        DUE.is("behind one with a fault", x.undo(), true);
    }

    private static void refusedIsNotUndone() {
        DUE.says("The last thing done (seal, forge, burn, years) is undone");
        SealFaces x = DUE.told(TWO);
        x.years(3);
        x.seal(0, 1);
        x.forge(9);
        x.burn(0);
        x.years(41);
        x.years(0);
        x.restore(2);
        DUE.is("count(9)", x.count(9), 1);
        DUE.is("undo()", x.undo(), true);
        DUE.is("count(3)", x.count(3), 0);
    }

    private static void slotsThereAre() {
        DUE.says("held in a SLOT (0 .. 2): true; false: no such one");
        SealFaces x = DUE.told(TWO);
        for (int slot : Due.outside(0, 2)) {
            DUE.is("hold(" + slot + ")", x.hold(slot), false);
            DUE.is("restore(" + slot + ")", x.restore(slot), false);
        }
        DUE.is("count(11)", x.count(11), 0);
        for (int slot = 0; slot < 3; slot++) {
            DUE.is("restore(" + slot + ") of nothing", x.restore(slot), false);
            DUE.is("hold(" + slot + ")", x.hold(slot), true);
            DUE.is("count(11)", x.count(11), slot + 1);
            DUE.is("restore(" + slot + ")", x.restore(slot), true);
        }
        DUE.is("hold(2) again", x.hold(2), true);
        DUE.is("count(11)", x.count(11), 3);
        DUE.changesNothing("hold(3)", SceneBoundsTest::some, y -> y.hold(3) ? 1 : 0, 0);
        DUE.changesNothing("hold(-1)", SceneBoundsTest::some, y -> y.hold(-1) ? 1 : 0, 0);
    }

    private static void slotsHold() {
        DUE.says("All that goes on .. is held in a SLOT (0 .. 2)");
        SealFaces x = DUE.told(TWO);
        x.hold(0);
        x.seal(0, 0);
        x.years(1);
        x.hold(1);
        x.forge(1);
        x.years(2);
        x.hold(2);
        int[] years = {0, 1, 3};
        int[] open = {7, 6, 4};
        int[] forged = {0, 0, 2};
        int[] levels = {28, 27, 28};
        int[] prints = {0, 1, 7};
        for (int turn = 0; turn < 6; turn++) {
            int slot = (turn * 2 + 1) % 3;
            DUE.is("restore(" + slot + ")", x.restore(slot), true);
            DUE.is("year of " + slot, x.count(3), years[slot]);
            DUE.is("open ones of " + slot, x.count(4), open[slot]);
            DUE.is("forged ones of " + slot, x.count(5), forged[slot]);
            DUE.is("levels of " + slot, x.count(12), levels[slot]);
            DUE.is("prints of " + slot, x.count(13), prints[slot]);
            x.years(3);
            x.forge(2);
        }
    }

    private static void slotsNotToldNorTape() {
        DUE.says("All that goes on (not what is TOLD, nor the tape) is held in a SLOT");
        SealFaces x = DUE.told(TWO);
        x.tell(0, 2, true);
        Due.feed(x, "seed");
        x.hold(0);
        x.tell(0, 3, true);
        Due.feed(x, " 1;");
        x.restore(0);
        DUE.is("count(10)", x.count(10), 2);
        DUE.is("count(8)", x.count(8), 7);
        DUE.is("who(1, 0, 1)", x.who(1, 0, 1), 1);
        DUE.is("who(2, 0, 1)", x.who(2, 0, 1), 0);
        x.forget();
        x.restore(0);
        DUE.is("count(10)", x.count(10), 0);
        DUE.is("read()", x.read(), 0);
        DUE.is("count(0)", x.count(0), 0);
    }

    private static void restoredAndGoneOn() {
        DUE.says("It goes on from what a SLOT holds (that stays there; nothing can be undone then): true");
        SealFaces x = some();
        DUE.is("count(9)", x.count(9), 3);
        DUE.is("restore(1)", x.restore(1), true);
        DUE.is("count(9)", x.count(9), 0);
        DUE.is("undo()", x.undo(), false);
        DUE.is("count(11)", x.count(11), 1);
        DUE.is("forge(2)", x.forge(2), true);
        DUE.is("count(9)", x.count(9), 1);
        DUE.is("undo()", x.undo(), true);
        DUE.is("undo()", x.undo(), false);
        x.years(7);
        DUE.is("restore(1) once more", x.restore(1), true);
        DUE.is("count(3)", x.count(3), 1);
        // what is held stays as it was, whatever is undone or done behind it
        x = DUE.told(TWO);
        x.years(2);
        x.hold(0);
        x.undo();
        DUE.is("restore(0)", x.restore(0), true);
        DUE.is("count(3)", x.count(3), 2);
        // forty things can be undone again
        for (int n = 0; n < 41; n++) {
            x.years(1);
        }
        DUE.is("count(9)", x.count(9), 40);
    }

    private static void restoreRefused() {
        DUE.says("false, and nothing happens: no such one, nothing is held");
        DUE.changesNothing("restore(0)", SceneBoundsTest::some, x -> x.restore(0) ? 1 : 0, 0);
        DUE.changesNothing("restore(2)", SceneBoundsTest::some, x -> x.restore(2) ? 1 : 0, 0);
        DUE.changesNothing("restore(3)", SceneBoundsTest::some, x -> x.restore(3) ? 1 : 0, 0);
        DUE.changesNothing("restore(-1)", SceneBoundsTest::some, x -> x.restore(-1) ? 1 : 0, 0);
        for (int slot : Due.outside(0, 2)) {
            DUE.is("restore(" + slot + ")", some().restore(slot), false);
        }
        for (int slot = 0; slot < 3; slot++) {
            DUE.is("restore(" + slot + ") of a new object", new SealFaces().restore(slot), false);
        }
    }

    private static void countOthers() {
        DUE.says("NONE for others.");
        for (int what : Due.outside(0, 15)) {
            DUE.is("count(" + what + ") of a new object", new SealFaces().count(what), -1);
            DUE.is("count(" + what + ")", some().count(what), -1);
        }
    }

    private static void countsOfNothing() {
        DUE.says("0 CLERKS, 1 DEEDS .. 15 CLERKS who CAN SEAL none (bits)");
        SealFaces x = DUE.told("clerk a 1 0 0 0;clerk b 1 9 9 9;");
        DUE.is("no deeds: stuck", x.count(14), 0);
        DUE.is("no deeds: who can seal none", x.count(15), 3);
        x = DUE.told("deed u 1 0 0 0;deed v 1 9 9 9;");
        DUE.is("no clerks: stuck", x.count(14), 3);
        DUE.is("no clerks: idle", x.count(15), 0);
        x.forge(0);
        DUE.is("one forged is not stuck", x.count(14), 2);
        x = DUE.told("clerk a 1 0 0 0;clerk b 1 9 9 9;deed u 1 1 1 1;");
        DUE.is("idle ahead", x.count(15), 1);
        x.seal(1, 0);
        DUE.is("none open: idle", x.count(15), 3);
        DUE.is("none open: stuck", x.count(14), 0);
    }

    private static void countsAtTheMost() {
        DUE.says("0 CLERKS, 1 DEEDS .. 15 CLERKS who CAN SEAL none (bits)");
        SealFaces x = DUE.told(FULL);
        DUE.is("levels of all", x.count(12), 135);
        DUE.is("open ones", x.count(4), 63);
        DUE.is("stuck: the last leaves all bare", x.count(14), 32);
        for (int d = 0; d < 5; d++) {
            x.seal(d, d);
        }
        DUE.is("treaties that hold", x.count(7), 6);
        DUE.is("binds of five", x.count(6), 495);
        DUE.is("who can seal none", x.count(15), 31);
        DUE.is("stuck", x.count(14), 32);
        DUE.is("levels left", x.count(12), 5);
        for (int d = 0; d < 5; d++) {
            x.burn(d);
        }
        DUE.is("all open, all stuck", x.count(14), 63);
        for (int d = 0; d < 6; d++) {
            x.forge(d);
        }
        DUE.is("forged ones", x.count(5), 63);
        DUE.is("open ones", x.count(4), 0);
        DUE.is("prints of all", x.count(13), 157);
        x = DUE.told("deed u 1 9 9 9;deed v 1 9 9 9;deed w 1 9 9 9;deed x 1 9 9 9;deed y 1 9 9 9;deed z 1 9 9 9;");
        for (int d = 0; d < 6; d++) {
            x.forge(d);
        }
        DUE.is("prints of all", x.count(13), 162);
        x = DUE.told("clerk a 1 1 0 0;deed u 99 0 0 0;deed v 99 0 0 0;deed w 99 0 0 0;deed x 99 0 0 0;deed y 99 0 0 0;deed z 99 0 0 0;");
        for (int d = 0; d < 6; d++) {
            x.seal(0, d);
        }
        DUE.is("binds of six", x.count(6), 594);
        x = DUE.told("clerk a 1 9 9 9;deed u 1 3 3 3;fades=1;binds=print+10*year;");
        x.seal(0, 0);
        x.years(1);
        DUE.is("binds now", x.count(6), 16);
        DUE.is("binds now", x.deed(0, 8), 16);
    }
}
