/** Bounds of promises 15 to 35: what would be, where nothing, one or as many as can be are there. */
public final class WouldBeBoundsTest {
    private static final Due DUE = new Due();
    private static final String FIVE = "clerk a 1 9 9 9;clerk b 1 9 9 9;clerk c 1 9 9 9;clerk d 1 9 9 9;clerk e 1 9 9 9;";
    private static final String SIX = "deed u 10 1 1 1;deed v 20 1 1 1;deed w 30 1 1 1;deed x 40 1 1 1;deed y 50 1 1 1;deed z 60 1 1 1;";

    public static void main(String[] args) {
        allOthers();
        allNobody();
        allOfNone();
        allMost();
        allAlike();
        allWhoCanThen();
        allBehindAll();
        fewestOthers();
        fewestNotByAll();
        fewestBounds();
        fewestLeastBits();
        matchOthers();
        matchNobody();
        matchMost();
        matchAlike();
        greatestBounds();
        weakestBounds();
        handsBounds();
        workBounds();
        gameOthers();
        gameBounds();
        breaksBounds();
        lentBounds();
        apartBounds();
        likeBounds();
        twinsBounds();
        healsBounds();
        healsAtAHundred();
        blankBounds();
        blankAtAHundred();
        barestBounds();
        readsBounds();
        readsNextClerk();
        slipsAtTheirBounds();
        slipsInReadsAndYearAlone();
        levelInBounds();
        printInBounds();
        bindsInBounds();
        yearOthers();
        yearSeeds();
        nothingHappens();
        DUE.end();
    }

    private static void pair(String call, int zero, int one, int wantZero, int wantOne) {
        DUE.is(call + "(0)", zero, wantZero);
        DUE.is(call + "(1)", one, wantOne);
    }

    private static void alls(String name, SealFaces x, int... want) {
        for (int i = -1; i < want.length - 1; i++) {
            DUE.is(name + ": all(" + i + ")", x.all(i), want[i + 1]);
        }
    }

    private static void matches(String name, SealFaces x, int... want) {
        for (int i = -1; i < want.length - 1; i++) {
            DUE.is(name + ": match(" + i + ")", x.match(i), want[i + 1]);
        }
    }

    private static void allOthers() {
        DUE.says("ALL: how much (i NONE), else who seals the i-th DEED .. NONE: no such DEED");
        SealFaces x = DUE.told(FIVE + SIX);
        for (int i : Due.outside(-1, 5)) {
            DUE.is("all(" + i + ")", x.all(i), -1);
        }
        DUE.is("all(-1)", x.all(-1), 210);
        DUE.is("all(5)", x.all(5), 0);
        x = DUE.told(FIVE + "deed u 7 1 1 1;");
        for (int i : Due.outside(-1, 0)) {
            DUE.is("one deed: all(" + i + ")", x.all(i), -1);
        }
        x = DUE.told(FIVE);
        for (int i : Due.outside(-1, -1)) {
            DUE.is("no deeds: all(" + i + ")", x.all(i), -1);
        }
        DUE.is("no deeds: all(-1)", x.all(-1), 0);
    }

    private static void allNobody() {
        DUE.says("-2: nobody; it is not open, too");
        SealFaces x = DUE.told("clerk a 1 9 9 9;deed u 9 1 1 1;deed v 8 1 1 1;deed w 7 9 9 9;deed x 6 1 1 1;");
        x.seal(0, 0);
        x.forge(1);
        alls("sealed, forged, nobody, open", x, 6, -2, -2, -2, 0, -1);
        x.forge(2);
        x.forge(3);
        alls("none open", x, 0, -2, -2, -2, -2, -1);
        x.burn(0);
        alls("burnt", x, 9, 0, -2, -2, -2, -1);
    }

    private static void allOfNone() {
        DUE.says("ALL: how much");
        alls("no clerks", DUE.told(SIX), 0, -2, -2, -2, -2, -2, -2, -1);
        alls("clerks who can nothing", DUE.told("clerk a 1 0 0 0;clerk b 1 1 1 1;" + SIX), 0, -2, -2, -2, -2, -2, -2, -1);
        alls("new object", new SealFaces(), 0, -1);
    }

    private static void allMost() {
        DUE.says("so that BINDS of those, as it is behind all, added, is most: how much");
        alls("all six, 99 each", DUE.told("clerk a 1 6 1 0;" + SIX.replaceAll(" [1-6]0 1 1 1", " 99 1 0 0")), 594, 0, 0, 0, 0, 0, 0, -1);
        alls("five clerks for five of six", DUE.told(FIVE.replace("9 9 9", "1 1 0") + SIX.replaceAll("1 1 1;", "1 0 0;")), 200, -2, 0, 1, 2, 3, 4, -1);
        // the one of 50 alone, or both others of 30
        alls("two small ones", DUE.told("clerk a 1 4 0 1;deed u 30 2 0 0;deed v 50 3 0 0;deed w 30 2 0 0;"), 60, 0, -2, 0);
        alls("one large one", DUE.told("clerk a 1 4 0 1;deed u 30 2 0 0;deed v 61 3 0 0;deed w 30 2 0 0;"), 61, -2, 0, -2);
        alls("0 is no more than 0", DUE.told(FIVE + "deed u 0 1 1 1;deed v 1 1 1 1;"), 1, -2, 0, -1);
        // the last clerk seals all six: all digits of what tells who seals are as high as can be
        alls("all six by the last", DUE.told("clerk a 1 0 0 0;clerk b 1 0 0 0;clerk c 1 0 0 0;clerk d 1 0 0 0;clerk e 1 9 9 9;" + SIX), 210, 4, 4, 4, 4, 4, 4, -1);
        // a can the second alone, b the first alone, c the third
        alls("crosswise", DUE.told("clerk a 1 1 9 9;clerk b 1 9 1 9;clerk c 1 9 9 1;deed u 9 5 0 5;deed v 8 0 5 5;deed w 7 5 5 0;"), 24, 1, 0, 2, -1);
        alls("crosswise, two", DUE.told("clerk a 1 1 9 9;clerk b 1 9 1 9;deed u 9 5 0 5;deed v 8 0 5 5;"), 17, 1, 0, -1);
    }

    private static void allAlike() {
        DUE.says("of alike ones open ahead of all CLERKS, then the lowest, for the first open DEED, then for the next one");
        alls("the lowest for all", DUE.told(FIVE + SIX), 210, 0, 0, 0, 0, 0, 0, -1);
        alls("open ahead of the lowest", DUE.told(FIVE + SIX + "binds=0;"), 0, -2, -2, -2, -2, -2, -2, -1);
        // one of both can be sealed, 5 each: the first is left open
        alls("open for the first", DUE.told("clerk a 1 1 1 1;deed u 5 1 1 0;deed v 5 1 1 0;"), 5, -2, 0, -1);
        // a can one, b can one: the first by a, the next by b; for three the first is left open
        alls("two of three", DUE.told("clerk a 1 1 1 1;clerk b 1 1 1 1;deed u 5 1 1 0;deed v 5 1 1 0;deed w 5 1 1 0;"), 10, -2, 0, 1, -1);
        // only b can the first, both the next: the next by a
        alls("the lowest for the next", DUE.told("clerk a 1 4 4 4;clerk b 1 9 9 9;deed u 5 5 1 1;deed v 5 2 1 1;"), 10, 1, 0, -1);
        // the first by a would leave the second to nobody
        alls("the most goes ahead of the lowest", DUE.told("clerk a 1 4 4 4;clerk b 1 3 3 3;deed u 5 3 3 2;deed v 6 4 4 3;"), 11, 1, 0, -1);
        alls("the last clerk alone", DUE.told("clerk a 1 1 1 1;clerk b 1 1 1 1;clerk c 1 1 1 1;clerk d 1 1 1 1;clerk e 1 9 9 9;" + SIX.replace("60 1 1 1", "60 9 9 8")
            .replaceAll("deed ([u-y]) (.)0 1 1 1", "deed $1 $20 2 2 2")), 140, -2, 4, 4, 4, 4, -2, -1);
    }

    private static void allWhoCanThen() {
        DUE.says("open DEEDS, by their numbers, each left open or SEALED by a CLERK who CAN then");
        // in the order of their numbers: v takes 4 once u is sealed, but u could be sealed behind v
        alls("by their numbers", DUE.told("clerk a 1 6 6 6;deed u 9 3 3 3;deed v 9 1 1 1;takes=need+3*sealed;"), 9, -2, 0, -1);
        alls("levels just enough", DUE.told("clerk a 1 6 0 1;" + SIX.replaceAll("1 1 1;", "1 0 0;")), 210, 0, 0, 0, 0, 0, 0, -1);
        alls("levels one too few", DUE.told("clerk a 1 5 0 1;" + SIX.replaceAll("1 1 1;", "1 0 0;")), 200, -2, 0, 0, 0, 0, 0, -1);
        alls("none bare behind it", DUE.told("clerk a 1 6 0 0;" + SIX.replaceAll("1 1 1;", "1 0 0;")), 200, -2, 0, 0, 0, 0, 0, -1);
    }

    private static void allBehindAll() {
        DUE.says("BINDS of those, as it is behind all, added");
        alls("by sealed", DUE.told("clerk a 1 9 9 9;" + SIX + "binds=worth/sealed;"), 60, -2, -2, -2, -2, -2, 0, -1);
        // 6 sealed bind 6 each
        alls("all of them", DUE.told("clerk a 1 9 9 9;" + SIX + "binds=sealed;"), 36, 0, 0, 0, 0, 0, 0, -1);
        SealFaces x = DUE.told("clerk a 1 9 9 9;" + SIX + "binds=sealed;");
        x.seal(0, 0);
        x.seal(0, 1);
        alls("two sealed ahead", x, 24, -2, -2, 0, 0, 0, 0, -1);
        alls("by prints of it alone", DUE.told("clerk a 1 9 9 9;deed u 1 1 1 1;deed v 1 2 2 2;binds=print;"), 9, 0, 0, -1);
        // 9 of 1 by 1, 9 of 2 by 2, 9 of 3 by 3: prints 3, 6, 9 times the worth of each
        alls("by prints and worths", DUE.told("clerk a 1 9 9 9;deed u 3 1 1 1;deed v 1 2 2 2;deed w 2 3 3 3;binds=print*worth;"), 33, 0, 0, 0, -1);
        alls("by prints of six", DUE.told("clerk a 1 9 9 9;" + SIX + "takes=if sealed<5 then 1 else 3;binds=print*worth/30;"), 1 + 2 + 3 + 4 + 5 + 18, 0, 0, 0, 0, 0, 0, -1);
        x = DUE.told("clerk a 1 9 9 9;deed u 7 3 3 3;binds=worth+year;");
        x.years(2);
        alls("by the year that it is", x, 9, 0, -1);
    }

    private static void fewestOthers() {
        DUE.says("FEWEST: what 0 how many, 1 who (bits); -2: not by all. NONE for others.");
        SealFaces can = DUE.told(FIVE + SIX);
        SealFaces not = DUE.told(SIX);
        for (int what : Due.outside(0, 1)) {
            DUE.is("fewest(" + what + ")", can.fewest(what), -1);
            DUE.is("not by all: fewest(" + what + ")", not.fewest(what), -1);
            DUE.is("new object: fewest(" + what + ")", new SealFaces().fewest(what), -1);
        }
    }

    private static void fewestNotByAll() {
        DUE.says("-2: not by all");
        SealFaces x = DUE.told(SIX);
        pair("no clerks: fewest", x.fewest(0), x.fewest(1), -2, -2);
        x = DUE.told(FIVE + SIX.replace("60 1 1 1", "60 9 9 9"));
        pair("one that nobody can: fewest", x.fewest(0), x.fewest(1), -2, -2);
        x.forge(5);
        pair("forged: fewest", x.fewest(0), x.fewest(1), 1, 1);
        x = DUE.told(FIVE.replace("9 9 9", "1 0 1") + SIX.replaceAll("1 1 1;", "1 0 0;"));
        pair("six for five: fewest", x.fewest(0), x.fewest(1), -2, -2);
        x.forge(3);
        pair("five for five: fewest", x.fewest(0), x.fewest(1), 5, 31);
    }

    private static void fewestBounds() {
        DUE.says("the fewest CLERKS by whom all open DEEDS can be SEALED");
        SealFaces x = new SealFaces();
        pair("nothing: fewest", x.fewest(0), x.fewest(1), 0, 0);
        x = DUE.told(FIVE);
        pair("no deeds: fewest", x.fewest(0), x.fewest(1), 0, 0);
        x = DUE.told("deed u 1 1 1 1;");
        x.forge(0);
        pair("none open, no clerks: fewest", x.fewest(0), x.fewest(1), 0, 0);
        x = DUE.told("clerk a 1 6 6 7;" + SIX);
        pair("one for six: fewest", x.fewest(0), x.fewest(1), 1, 1);
        x = DUE.told("clerk a 1 6 6 6;" + SIX);
        pair("all bare by the sixth: fewest", x.fewest(0), x.fewest(1), -2, -2);
        x = DUE.told("clerk a 1 6 6 6;clerk b 1 1 1 2;" + SIX);
        pair("two: fewest", x.fewest(0), x.fewest(1), 2, 3);
        x = DUE.told(FIVE.replace("9 9 9", "2 0 1") + SIX.replaceAll("1 1 1;", "1 0 0;"));
        pair("three of five: fewest", x.fewest(0), x.fewest(1), 3, 7);
        x = DUE.told("clerk a 1 1 9 9;clerk b 1 9 1 9;deed u 9 5 0 5;deed v 8 0 5 5;");
        pair("crosswise: fewest", x.fewest(0), x.fewest(1), 2, 3);
        x = DUE.told("clerk a 1 1 9 9;clerk b 1 9 1 9;clerk c 1 9 9 1;deed u 9 5 0 5;deed v 8 0 5 5;deed w 7 5 5 0;");
        pair("crosswise, three: fewest", x.fewest(0), x.fewest(1), 3, 7);
        // each can u, and behind it one of the others: but u is sealed once alone
        x = DUE.told("clerk a 1 3 3 3;clerk b 1 3 3 3;deed u 10 1 1 1;deed v 11 1 1 1;deed w 12 1 1 1;takes=if worth<11 then 1 else if sealed<1 then 9 else 1;");
        pair("one behind the other: fewest", x.fewest(0), x.fewest(1), -2, -2);
        alls("one behind the other", x, 22, 0, -2, 0, -1);
    }

    private static void fewestLeastBits() {
        DUE.says("who, of as many the least bits");
        SealFaces x = DUE.told(FIVE + "deed u 1 1 1 1;");
        pair("any: fewest", x.fewest(0), x.fewest(1), 1, 1);
        x = DUE.told("clerk a 1 1 1 1;clerk b 1 1 1 1;clerk c 1 1 1 1;clerk d 1 9 9 9;clerk e 1 9 9 9;deed u 1 5 5 5;");
        pair("the fourth: fewest", x.fewest(0), x.fewest(1), 1, 8);
        // b and c can both, but so can a and d; 6 is less than 9
        x = DUE.told("clerk a 1 5 1 1;clerk b 1 5 1 1;clerk c 1 1 5 1;clerk d 1 1 5 1;deed u 1 4 0 0;deed v 1 0 4 0;deed w 1 0 4 0;");
        pair("not by all: fewest", x.fewest(0), x.fewest(1), 3, 13);
        x.forge(2);
        pair("5, not 6 or 9: fewest", x.fewest(0), x.fewest(1), 2, 5);
        x = DUE.told("clerk a 1 3 3 3;clerk b 1 3 3 3;clerk c 1 9 9 9;deed u 1 2 2 2;deed v 1 2 2 2;");
        pair("fewer goes ahead of less bits: fewest", x.fewest(0), x.fewest(1), 1, 4);
    }

    private static void matchOthers() {
        DUE.says("MATCH: how many (i NONE), else who has the i-th DEED (-2: nobody); NONE: no such DEED.");
        SealFaces x = DUE.told(FIVE + SIX);
        for (int i : Due.outside(-1, 5)) {
            DUE.is("match(" + i + ")", x.match(i), -1);
        }
        x = DUE.told(FIVE);
        for (int i : Due.outside(-1, -1)) {
            DUE.is("no deeds: match(" + i + ")", x.match(i), -1);
        }
        DUE.is("no deeds: match(-1)", x.match(-1), 0);
    }

    private static void matchNobody() {
        DUE.says("who has the i-th DEED (-2: nobody)");
        SealFaces x = DUE.told("clerk a 1 9 9 9;deed u 9 1 1 1;deed v 8 1 1 1;deed w 7 9 9 9;deed x 6 1 1 1;");
        x.seal(0, 0);
        x.forge(1);
        matches("sealed, forged, by nobody, open", x, 1, -2, -2, -2, 0, -1);
        matches("no clerks", DUE.told(SIX), 0, -2, -2, -2, -2, -2, -2, -1);
        matches("new object", new SealFaces(), 0, -1);
        x.forge(2);
        x.forge(3);
        matches("none open", x, 0, -2, -2, -2, -2, -1);
    }

    private static void matchMost() {
        DUE.says("the most open DEEDS that can be given each to another CLERK who CAN SEAL it now (each as if the only one)");
        matches("five of six", DUE.told(FIVE + SIX), 5, 0, 1, 2, 3, 4, -2, -1);
        matches("one clerk, six deeds", DUE.told("clerk a 1 9 9 9;" + SIX), 1, 0, -2, -2, -2, -2, -2, -1);
        matches("five clerks, one deed", DUE.told(FIVE + "deed u 1 1 1 1;"), 1, 0, -1);
        // each of a to e can one deed alone, told the other way round
        matches("each their own", DUE.told("clerk a 1 1 1 2;clerk b 1 2 2 3;clerk c 1 3 3 4;clerk d 1 4 4 5;clerk e 1 5 5 6;"
            + "deed u 1 5 5 5;deed v 1 4 4 4;deed w 1 3 3 3;deed x 1 2 2 2;deed y 1 1 1 1;deed z 1 9 9 9;"), 5, 4, 3, 2, 1, 0, -2, -1);
        matches("as it is now, not behind one another", DUE.told("clerk a 1 9 9 9;clerk b 1 9 9 9;deed u 1 8 8 8;deed v 1 8 8 8;takes=need+sealed;"), 2, 0, 1, -1);
        matches("the last alone", DUE.told(FIVE + SIX.replaceAll("([1-5]0) 1 1 1", "$1 9 9 9")), 1, -2, -2, -2, -2, -2, 0, -1);
        matches("the last to the last", DUE.told("clerk a 1 0 0 0;clerk b 1 0 0 0;clerk c 1 0 0 0;clerk d 1 0 0 0;clerk e 1 9 9 9;"
            + SIX.replaceAll("([1-5]0) 1 1 1", "$1 9 9 9")), 1, -2, -2, -2, -2, -2, 4, -1);
    }

    private static void matchAlike() {
        DUE.says("of alike ones the lowest CLERK for the first, nobody behind all, then for the next one");
        matches("nobody behind all", DUE.told("clerk a 1 9 9 9;clerk b 1 9 9 9;" + SIX), 2, 0, 1, -2, -2, -2, -2, -1);
        // u can be given to a or b, v to a alone
        matches("the most goes ahead", DUE.told("clerk a 1 9 9 9;clerk b 1 3 3 3;deed u 1 2 2 2;deed v 1 5 5 5;"), 2, 1, 0, -1);
        // u to a, or v to a: the first is not left to nobody
        matches("the first has one", DUE.told("clerk a 1 9 9 9;clerk b 1 3 3 3;deed u 1 5 5 5;deed v 1 5 5 5;deed w 1 1 1 1;"), 2, 0, -2, 1, -1);
    }

    private static void greatestBounds() {
        DUE.says("GREATEST: what 0 which, 1 how much; -2: no DEEDS. NONE for others.");
        SealFaces x = DUE.told(FIVE + SIX);
        for (int what : Due.outside(0, 1)) {
            DUE.is("greatest(" + what + ")", x.greatest(what), -1);
            DUE.is("no deeds: greatest(" + what + ")", new SealFaces().greatest(what), -1);
        }
        pair("all open, the first: greatest", x.greatest(0), x.greatest(1), 0, 0);
        x.forge(3);
        pair("forged binds 0: greatest", x.greatest(0), x.greatest(1), 0, 0);
        x.seal(0, 5);
        pair("the last: greatest", x.greatest(0), x.greatest(1), 5, 60);
        x.seal(0, 0);
        pair("not the first: greatest", x.greatest(0), x.greatest(1), 5, 60);
        x = DUE.told(FIVE);
        pair("no deeds: greatest", x.greatest(0), x.greatest(1), -2, -2);
        x = DUE.told(FIVE + SIX + "binds=which;");
        x.seal(0, 5);
        pair("all 0, the first, open: greatest", x.greatest(0), x.greatest(1), 0, 0);
        x = DUE.told(FIVE + SIX + "binds=99;");
        x.seal(0, 4);
        x.seal(0, 2);
        pair("alike: greatest", x.greatest(0), x.greatest(1), 2, 99);
        // now 9 and 0 of 10, a year on 8 and 9
        x = DUE.told("clerk a 1 9 9 9;deed u 9 1 1 1;deed v 0 1 1 1;binds=if worth<1 then 9*year else 9-year;");
        x.seal(0, 0);
        x.seal(0, 1);
        pair("now: greatest", x.greatest(0), x.greatest(1), 0, 9);
        x.years(1);
        pair("a year on: greatest", x.greatest(0), x.greatest(1), 1, 9);
        x.years(1);
        pair("two years on: greatest", x.greatest(0), x.greatest(1), 1, 18);
    }

    private static void weakestBounds() {
        DUE.says("WEAKEST: what 0 which, 1 how much; -2: none HOLDS. NONE for others.");
        SealFaces x = DUE.told(FIVE + SIX + "treaty z y;treaty u v;treaty v u;treaty w x;treaty x u;treaty y z;");
        for (int what : Due.outside(0, 1)) {
            DUE.is("weakest(" + what + ")", x.weakest(what), -1);
            DUE.is("none: weakest(" + what + ")", new SealFaces().weakest(what), -1);
        }
        pair("none holds: weakest", x.weakest(0), x.weakest(1), -2, -2);
        x.seal(0, 0);
        x.seal(0, 1);
        pair("by one clerk: weakest", x.weakest(0), x.weakest(1), -2, -2);
        x.seal(1, 4);
        x.seal(2, 5);
        pair("the first of two alike: weakest", x.weakest(0), x.weakest(1), 0, 50);
        x.seal(3, 3);
        pair("the one that binds less: weakest", x.weakest(0), x.weakest(1), 4, 10);
        x = DUE.told("clerk a 1 9 9 9;clerk b 1 9 9 9;deed u 0 1 1 1;deed v 1 1 1 1;treaty u v;");
        x.seal(0, 0);
        x.seal(1, 1);
        pair("that binds 0: weakest", x.weakest(0), x.weakest(1), 0, 0);
        x = DUE.told("clerk a 1 9 9 9;clerk b 1 9 9 9;deed u 1 1 1 1;deed v 9 1 1 1;treaty u v;treaty v u;binds=if worth<2 then 8*year else worth;");
        x.seal(0, 0);
        x.seal(1, 1);
        pair("now: weakest", x.weakest(0), x.weakest(1), 0, 0);
        x.years(1);
        pair("a year on: weakest", x.weakest(0), x.weakest(1), 0, 8);
        x.years(1);
        pair("two years on: weakest", x.weakest(0), x.weakest(1), 0, 9);
        x = DUE.told("clerk a 1 9 9 9;clerk b 1 9 9 9;deed u 1 1 1 1;deed v 9 1 1 1;treaty v u;binds=if worth<2 then 8*year else worth;");
        x.seal(0, 0);
        x.seal(1, 1);
        x.years(1);
        pair("the other one now: weakest", x.weakest(0), x.weakest(1), 0, 8);
        pair("no treaties: weakest", DUE.told(FIVE).weakest(0), DUE.told(FIVE).weakest(1), -2, -2);
    }

    private static void handsBounds() {
        DUE.says("HANDS (bits; not open: 0); NONE: no such DEED.");
        SealFaces x = DUE.told(FIVE + SIX);
        for (int deed : Due.outside(0, 5)) {
            DUE.is("hands(" + deed + ")", x.hands(deed), -1);
        }
        DUE.is("all five", x.hands(5), 31);
        x.seal(4, 5);
        DUE.is("sealed", x.hands(5), 0);
        x.forge(0);
        DUE.is("forged", x.hands(0), 0);
        x.burn(5);
        DUE.is("burnt", x.hands(5), 31);
        DUE.is("no clerks", DUE.told(SIX).hands(0), 0);
        DUE.is("no deeds", DUE.told(FIVE).hands(0), -1);
    }

    private static void workBounds() {
        DUE.says("WORK (bits); NONE: no such CLERK.");
        SealFaces x = DUE.told(FIVE + SIX);
        for (int clerk : Due.outside(0, 4)) {
            DUE.is("work(" + clerk + ")", x.work(clerk), -1);
        }
        DUE.is("all six", x.work(4), 63);
        x.seal(4, 5);
        x.forge(0);
        DUE.is("open ones alone", x.work(4), 30);
        DUE.is("no deeds", DUE.told(FIVE).work(0), 0);
        DUE.is("no clerks", DUE.told(SIX).work(0), -1);
    }

    private static void gameOthers() {
        DUE.says("-100000 for others.");
        SealFaces x = DUE.told(FIVE + SIX);
        for (int what : Due.outside(0, 1)) {
            DUE.is("game(" + what + ")", x.game(what), -100000);
            DUE.is("nothing: game(" + what + ")", new SealFaces().game(what), -100000);
        }
    }

    private static SealFaces sealedWith(int... worths) {
        StringBuilder s = new StringBuilder("clerk a 1 9 9 9;");
        for (int i = 0; i < worths.length; i++) {
            s.append("deed ").append((char) ('m' + i)).append(' ').append(worths[i]).append(" 1 0 0;");
        }
        SealFaces x = DUE.told(s.toString());
        for (int i = 0; i < worths.length; i++) {
            x.seal(0, i);
        }
        return x;
    }

    private static void gameBounds() {
        DUE.says("GAME: what 0 how much more the first has (may be below 0), 1 which one is taken at first (-2: none)");
        SealFaces x = DUE.told(FIVE + SIX);
        pair("all open: game", x.game(0), x.game(1), 0, -2);
        pair("no deeds: game", new SealFaces().game(0), new SealFaces().game(1), 0, -2);
        x = sealedWith(7);
        pair("one: game", x.game(0), x.game(1), 7, 0);
        x = sealedWith(7, 9);
        pair("two: game", x.game(0), x.game(1), 2, 1);
        x = sealedWith(9, 9);
        pair("two alike: game", x.game(0), x.game(1), 0, 0);
        x = sealedWith(1, 2, 3, 4, 5, 6);
        pair("six: game", x.game(0), x.game(1), 3, 5);
        x = sealedWith(99, 99, 99, 99, 99, 99);
        pair("six alike: game", x.game(0), x.game(1), 0, 0);
        x = sealedWith(0, 0, 99);
        // 99 at first; but 0 at first would leave 99 to the other
        pair("the last: game", x.game(0), x.game(1), 99, 2);
        x = sealedWith(5, 5, 5);
        pair("three alike: game", x.game(0), x.game(1), 5, 0);
        x = DUE.told("clerk a 1 9 9 9;deed u 9 1 1 1;deed v 1 1 1 1;deed w 1 1 1 1;");
        x.forge(1);
        pair("a forged one alone: game", x.game(0), x.game(1), 0, 1);
        x.seal(0, 0);
        pair("and one sealed: game", x.game(0), x.game(1), 9, 0);
        x = DUE.told("clerk a 1 9 9 9;deed u 9 1 1 1;deed v 0 1 1 1;binds=if worth<1 then 20*year else 10-year;");
        x.seal(0, 0);
        x.seal(0, 1);
        pair("now: game", x.game(0), x.game(1), 10, 0);
        x.years(1);
        pair("a year on: game", x.game(0), x.game(1), 11, 1);
    }

    private static void breaksBounds() {
        DUE.says("BREAK: what 0 how many, 1 who (bits). NONE for others.");
        SealFaces x = DUE.told(FIVE + SIX + "treaty u v;treaty w x;treaty v w;treaty x y;treaty y u;treaty u w;");
        for (int what : Due.outside(0, 1)) {
            DUE.is("breaks(" + what + ")", x.breaks(what), -1);
            DUE.is("nothing: breaks(" + what + ")", new SealFaces().breaks(what), -1);
        }
        pair("none holds: breaks", x.breaks(0), x.breaks(1), 0, 0);
        for (int d = 0; d < 5; d++) {
            x.seal(d, d);
        }
        // a-b, c-d, b-c, d-e, e-a, a-c: a, b and d; a, c and d would be 13
        pair("three: breaks", x.breaks(0), x.breaks(1), 3, 11);
        x = DUE.told(FIVE + SIX + "treaty y x;");
        x.seal(4, 4);
        x.seal(3, 3);
        pair("the least bits: breaks", x.breaks(0), x.breaks(1), 1, 8);
        x.burn(3);
        x.seal(4, 3);
        pair("by one clerk, none holds: breaks", x.breaks(0), x.breaks(1), 0, 0);
        x = DUE.told(FIVE + SIX + "treaty u z;treaty v z;treaty w z;treaty x z;treaty y z;");
        x.seal(4, 5);
        for (int d = 0; d < 5; d++) {
            x.seal(Math.min(d, 3), d);
        }
        pair("one in all: breaks", x.breaks(0), x.breaks(1), 1, 16);
    }

    private static void lentBounds() {
        DUE.says("LENT; NONE: no such ones.");
        SealFaces x = DUE.told("clerk a 1 9 9 9;clerk b 1 9 9 9;" + SIX.replaceAll("1 1 1;", "9 0 1;") + "grows=9;");
        for (int clerk : Due.outside(0, 1)) {
            DUE.is("lent(" + clerk + ", 0)", x.lent(clerk, 0), -1);
        }
        for (int feature : Due.outside(0, 2)) {
            DUE.is("lent(0, " + feature + ")", x.lent(0, feature), -1);
        }
        DUE.is("none: lent(1, 2)", x.lent(1, 2), 0);
        for (int d = 0; d < 6; d++) {
            DUE.is("seal", x.seal(1, d), true);
            x.years(1);
        }
        DUE.is("six of 9", x.lent(1, 0), 54);
        DUE.is("six of 0", x.lent(1, 1), 0);
        DUE.is("six of 1", x.lent(1, 2), 6);
        DUE.is("by another", x.lent(0, 0), 0);
        x.burn(0);
        DUE.is("burnt", x.lent(1, 0), 45);
    }

    private static void apartBounds() {
        DUE.says("APART; NONE: no such DEEDS.");
        SealFaces x = DUE.told("deed u 1 9 9 9;deed v 1 0 0 0;deed w 1 0 9 0;deed x 1 1 1 1;deed y 1 1 1 1;deed z 1 9 0 9;");
        for (int deed : Due.outside(0, 5)) {
            DUE.is("apart(" + deed + ", 0)", x.apart(deed, 0), -1);
            DUE.is("apart(0, " + deed + ")", x.apart(0, deed), -1);
            DUE.is("apart(" + deed + ", " + deed + ")", x.apart(deed, deed), -1);
        }
        DUE.is("open ones", x.apart(0, 1), 0);
        x.forge(0);
        x.forge(1);
        x.forge(2);
        x.forge(5);
        DUE.is("as far as can be", x.apart(0, 1), 27);
        DUE.is("the other way", x.apart(1, 0), 27);
        DUE.is("with an open one", x.apart(0, 3), 27);
        DUE.is("each differs the other way", x.apart(2, 5), 27);
        DUE.is("open ones still", x.apart(3, 4), 0);
    }

    private static void likeBounds() {
        DUE.says("LIKE: what 0 the two (10 * the lesser + the other), 1 how much; -2: there are not two. NONE for others.");
        SealFaces x = DUE.told("deed u 1 9 9 9;deed v 1 0 0 0;deed w 1 0 0 0;deed x 1 0 0 0;deed y 1 5 5 5;deed z 1 5 5 5;");
        for (int what : Due.outside(0, 1)) {
            DUE.is("like(" + what + ")", x.like(what), -1);
            DUE.is("nothing: like(" + what + ")", new SealFaces().like(what), -1);
        }
        pair("none: like", x.like(0), x.like(1), -2, -2);
        x.forge(0);
        pair("one: like", x.like(0), x.like(1), -2, -2);
        x.forge(1);
        pair("two, as far as can be: like", x.like(0), x.like(1), 1, 27);
        x.forge(5);
        pair("three: like", x.like(0), x.like(1), 5, 12);
        x.forge(4);
        pair("the last two: like", x.like(0), x.like(1), 45, 0);
        x.forge(3);
        pair("the first of alike ones: like", x.like(0), x.like(1), 13, 0);
        x.forge(2);
        pair("the first of alike ones: like", x.like(0), x.like(1), 12, 0);
        pair("no deeds: like", new SealFaces().like(0), new SealFaces().like(1), -2, -2);
    }

    private static void twinsBounds() {
        DUE.says("TWINS: likewise; NONE: no such ones.");
        SealFaces x = DUE.told("clerk a 1 9 0 5;clerk b 1 0 9 5;clerk c 1 5 5 5;clerk d 1 7 3 5;clerk e 1 6 3 5;");
        for (int feature : Due.outside(0, 2)) {
            DUE.is("twins(" + feature + ", 0)", x.twins(feature, 0), -1);
            DUE.is("nothing: twins(" + feature + ", 0)", new SealFaces().twins(feature, 0), -1);
        }
        for (int what : Due.outside(0, 1)) {
            DUE.is("twins(0, " + what + ")", x.twins(0, what), -1);
            DUE.is("nothing: twins(0, " + what + ")", new SealFaces().twins(0, what), -1);
        }
        pair("the first of 1 apart: twins", x.twins(0, 0), x.twins(0, 1), 24, 1);
        pair("the last two: twins", x.twins(1, 0), x.twins(1, 1), 34, 0);
        pair("all alike, the first two: twins", x.twins(2, 0), x.twins(2, 1), 1, 0);
        x = DUE.told("clerk a 1 9 0 5;");
        pair("one: twins", x.twins(2, 0), x.twins(2, 1), -2, -2);
        x = DUE.told("clerk a 1 9 0 5;clerk b 1 0 9 5;");
        pair("two, as far as can be: twins", x.twins(0, 0), x.twins(0, 1), 1, 9);
        pair("none: twins", new SealFaces().twins(0, 0), new SealFaces().twins(0, 1), -2, -2);
    }

    private static void healsBounds() {
        DUE.says("HEALS; -2: not; NONE: no such CLERK.");
        SealFaces x = DUE.told(FIVE + "deed u 1 1 0 0;grows=1;");
        for (int clerk : Due.outside(0, 4)) {
            DUE.is("heals(" + clerk + ")", x.heals(clerk), -1);
        }
        DUE.is("as at first", x.heals(4), 0);
        x.seal(4, 0);
        DUE.is("one year", x.heals(4), 1);
        DUE.is("another", x.heals(3), 0);
        x.years(1);
        DUE.is("a year on", x.heals(4), 0);
        x = DUE.told("clerk a 1 9 9 9;deed u 1 9 5 1;grows=if feature<1 then 3 else if feature<2 then 1 else 0;");
        x.seal(0, 0);
        DUE.is("one of them not", x.heals(0), -2);
        x = DUE.told("clerk a 1 9 9 9;deed u 1 9 5 1;grows=if feature<1 then 3 else 1;");
        x.seal(0, 0);
        DUE.is("the slowest of them", x.heals(0), 5);
        x = DUE.told("clerk a 1 0 0 0;");
        DUE.is("bare at first", x.heals(0), 0);
        // of the CLERK asked alone, who stands between two that do not heal
        x = DUE.told("clerk a 1 9 9 9;clerk b 1 9 9 9;clerk c 1 9 9 9;deed u 1 1 1 1;deed v 1 1 1 1;grows=which/1-which/2*2;");
        x.seal(0, 0);
        x.seal(2, 1);
        DUE.is("between two", x.heals(1), 0);
        DUE.is("the first", x.heals(0), -2);
        DUE.is("the last", x.heals(2), -2);
    }

    private static int healsFrom(int year, int gone) {
        SealFaces x = DUE.told("clerk a 1 9 9 9;deed u 1 1 0 0;grows=if year<" + year + " then 0 else 1;");
        x.seal(0, 0);
        for (int left = gone; left > 0; left -= Math.min(left, 40)) {
            x.years(Math.min(left, 40));
        }
        return x.heals(0);
    }

    private static void healsAtAHundred() {
        DUE.says("behind how many YEARS (0 .. 100) all LEVELS are as at first");
        DUE.is("behind 99", healsFrom(98, 0), 99);
        DUE.is("behind 100", healsFrom(99, 0), 100);
        DUE.is("behind 101", healsFrom(100, 0), -2);
        DUE.is("behind 101, a year on", healsFrom(100, 1), 100);
        DUE.is("behind 1, a hundred on", healsFrom(100, 100), 1);
        DUE.is("behind 0, one more on", healsFrom(100, 101), 0);
    }

    private static void blankBounds() {
        DUE.says("BLANK (open: 0); -2: not; NONE: no such DEED.");
        SealFaces x = DUE.told("clerk a 1 9 9 9;" + SIX + "fades=1;");
        for (int deed : Due.outside(0, 5)) {
            DUE.is("blank(" + deed + ")", x.blank(deed), -1);
        }
        DUE.is("open", x.blank(5), 0);
        x.seal(0, 5);
        DUE.is("sealed", x.blank(5), 1);
        x.years(1);
        DUE.is("a year on", x.blank(5), 0);
        DUE.is("sealed still", x.deed(5, 7), 0);
        x = DUE.told("deed u 1 9 5 1;deed v 1 0 0 0;fades=if feature<1 then 3 else 1;");
        x.forge(0);
        x.forge(1);
        DUE.is("the slowest of them", x.blank(0), 5);
        DUE.is("nothing needed", x.blank(1), 0);
        x = DUE.told("deed u 1 9 5 1;fades=if feature<2 then 9 else 0;");
        x.forge(0);
        DUE.is("one of them not", x.blank(0), -2);
        x = DUE.told("deed u 1 1 1 1;deed v 1 1 1 1;deed w 1 1 1 1;fades=which/1-which/2*2;");
        x.forge(0);
        x.forge(1);
        x.forge(2);
        DUE.is("between two", x.blank(1), 1);
        DUE.is("the first", x.blank(0), -2);
        DUE.is("the last", x.blank(2), -2);
    }

    private static int blankFrom(int year, int gone) {
        SealFaces x = DUE.told("deed u 1 1 0 0;fades=if year<" + year + " then 0 else 1;");
        x.forge(0);
        for (int left = gone; left > 0; left -= Math.min(left, 40)) {
            x.years(Math.min(left, 40));
        }
        return x.blank(0);
    }

    private static void blankAtAHundred() {
        DUE.says("behind how many YEARS (0 .. 100) all LEVELS of its PRINT are 0");
        DUE.is("behind 99", blankFrom(98, 0), 99);
        DUE.is("behind 100", blankFrom(99, 0), 100);
        DUE.is("behind 101", blankFrom(100, 0), -2);
        DUE.is("behind 101, a year on", blankFrom(100, 1), 100);
        DUE.is("behind 1, a hundred on", blankFrom(100, 100), 1);
        DUE.is("behind 0, one more on", blankFrom(100, 101), 0);
    }

    private static void barestBounds() {
        DUE.says("BAREST: what 0 who, 1 how much; -2: no CLERKS. NONE for others.");
        SealFaces x = DUE.told("clerk a 1 9 9 9;clerk b 1 5 5 5;clerk c 1 9 3 3;clerk d 1 5 5 5;clerk e 1 4 5 5;deed u 1 1 0 0;");
        for (int what : Due.outside(0, 1)) {
            DUE.is("barest(" + what + ")", x.barest(what), -1);
            DUE.is("nothing: barest(" + what + ")", new SealFaces().barest(what), -1);
        }
        pair("the last: barest", x.barest(0), x.barest(1), 4, 14);
        x.seal(1, 0);
        pair("alike, the first: barest", x.barest(0), x.barest(1), 1, 14);
        x = DUE.told(SIX);
        pair("no clerks: barest", x.barest(0), x.barest(1), -2, -2);
        x = DUE.told(FIVE);
        pair("all alike: barest", x.barest(0), x.barest(1), 0, 27);
        x = DUE.told("clerk a 1 0 0 1;clerk b 1 0 0 0;");
        pair("quite bare: barest", x.barest(0), x.barest(1), 1, 0);
    }

    private static void readsBounds() {
        DUE.says("READS; -2: not SEALED; NONE: no such DEED.");
        SealFaces x = DUE.told(FIVE + SIX + "slips 100;");
        for (int deed : Due.outside(0, 5)) {
            DUE.is("reads(" + deed + ")", x.reads(deed), -1);
        }
        DUE.is("open", x.reads(5), -2);
        x.forge(5);
        DUE.is("forged", x.reads(5), -2);
        x.burn(5);
        DUE.is("burnt", x.reads(5), -2);
        x.seal(0, 5);
        DUE.is("sealed", x.reads(5), 1);
    }

    private static void readsNextClerk() {
        DUE.says("the next CLERK instead (behind the last one the first)");
        for (int n = 1; n <= 5; n++) {
            for (int clerk = 0; clerk < n; clerk++) {
                SealFaces x = DUE.told(FIVE.substring(0, 16 * n) + SIX + "slips 100;");
                x.seal(clerk, clerk);
                DUE.is("of " + n + ", behind " + clerk, x.reads(clerk), clerk + 1 == n ? 0 : clerk + 1);
                DUE.is("YEAR of it", x.year(clerk, 20), n == 1 ? 20 : 0);
                x = DUE.told(FIVE.substring(0, 16 * n) + SIX + "slips 0;");
                x.seal(clerk, clerk);
                DUE.is("without slips", x.reads(clerk), clerk);
                DUE.is("YEAR of it", x.year(clerk, 20), 20);
            }
        }
    }

    private static int readsBy(String slips, int seed) {
        SealFaces x = DUE.told("clerk a 1 9 9 9;clerk b 1 9 9 9;deed u 1 1 1 1;" + slips + "seed " + seed + ";");
        x.seal(0, 0);
        return x.reads(0);
    }

    private static void slipsAtTheirBounds() {
        DUE.says("if LOT 100 of the SEED and 8 * the year and the DEED is less than SLIPS");
        // LOT 100 of seed 83 and 0 is 0, of seed 22 it is 99
        DUE.is("0 is not less than 0, not told", readsBy("", 83), 0);
        DUE.is("0 is not less than 0", readsBy("slips 0;", 83), 0);
        DUE.is("0 is less than 1", readsBy("slips 1;", 83), 1);
        DUE.is("99 is not less than 98", readsBy("slips 98;", 22), 0);
        DUE.is("99 is not less than 99", readsBy("slips 99;", 22), 0);
        DUE.is("99 is less than 100", readsBy("slips 100;", 22), 1);
    }

    private static void slipsInReadsAndYearAlone() {
        DUE.says("nothing happens; SLIPS in READS and YEAR alone");
        String text = FIVE + SIX + "treaty u v;grows=1;fades=1;";
        SealFaces x = DUE.told(text + "slips 100;");
        SealFaces other = DUE.told(text + "slips 0;");
        for (SealFaces y : new SealFaces[] {x, other}) {
            y.seal(0, 0);
            y.seal(1, 1);
            y.tell(0, 1, true);
        }
        DUE.is("all alike", Everything.of(x), Everything.of(other));
        for (int i = -1; i < 6; i++) {
            DUE.is("all(" + i + ")", x.all(i), other.all(i));
            DUE.is("match(" + i + ")", x.match(i), other.match(i));
        }
        DUE.is("weakest(1)", x.weakest(1), other.weakest(1));
        DUE.is("breaks(1)", x.breaks(1), other.breaks(1));
        DUE.is("lent(0, 0)", x.lent(0, 0), other.lent(0, 0));
        DUE.is("reads(0)", x.reads(0) == other.reads(0), false);
    }

    private static void levelInBounds() {
        DUE.says("IN n YEARS (0 .. 40) .. the LEVEL of a CLERK and a FEATURE; NONE: no such ones.");
        SealFaces x = DUE.told(FIVE + "deed u 1 9 9 8;grows=year/40+year/39;");
        x.seal(4, 0);
        for (int clerk : Due.outside(0, 4)) {
            DUE.is("levelIn(" + clerk + ", 0, 1)", x.levelIn(clerk, 0, 1), -1);
        }
        for (int feature : Due.outside(0, 2)) {
            DUE.is("levelIn(0, " + feature + ", 1)", x.levelIn(0, feature, 1), -1);
        }
        for (int n : Due.outside(0, 40)) {
            DUE.is("levelIn(0, 0, " + n + ")", x.levelIn(0, 0, n), -1);
        }
        DUE.is("now", x.levelIn(4, 2, 0), 1);
        DUE.is("in 39", x.levelIn(4, 0, 39), 0);
        DUE.is("in 40", x.levelIn(4, 0, 40), 1);
        x.years(1);
        DUE.is("a year on, in 39", x.levelIn(4, 0, 39), 1);
        DUE.is("a year on, in 40", x.levelIn(4, 0, 40), 3);
        DUE.is("nothing happens", x.clerk(4, 0), 0);
    }

    private static void printInBounds() {
        DUE.says("IN n YEARS (0 .. 40) .. the LEVEL of a PRINT and a FEATURE; NONE: no such ones.");
        SealFaces x = DUE.told(SIX.replace("60 1 1 1", "60 9 0 5") + "fades=year/40+year/39;");
        x.forge(5);
        for (int deed : Due.outside(0, 5)) {
            DUE.is("printIn(" + deed + ", 0, 1)", x.printIn(deed, 0, 1), -1);
        }
        for (int feature : Due.outside(0, 2)) {
            DUE.is("printIn(0, " + feature + ", 1)", x.printIn(0, feature, 1), -1);
        }
        for (int n : Due.outside(0, 40)) {
            DUE.is("printIn(0, 0, " + n + ")", x.printIn(0, 0, n), -1);
        }
        DUE.is("now", x.printIn(5, 2, 0), 5);
        DUE.is("in 39", x.printIn(5, 0, 39), 9);
        DUE.is("in 40", x.printIn(5, 0, 40), 8);
        x.years(1);
        DUE.is("a year on, in 40", x.printIn(5, 0, 40), 6);
        DUE.is("of nothing", x.printIn(5, 1, 40), 0);
        DUE.is("of an open one", x.printIn(0, 0, 40), 0);
        DUE.is("nothing happens", x.deed(5, 3), 9);
    }

    private static void bindsInBounds() {
        DUE.says("IN n YEARS what all DEEDS BIND, added; NONE: no such n.");
        SealFaces x = DUE.told(FIVE + SIX + "fades=1;binds=print+year/40;");
        for (int n : Due.outside(0, 40)) {
            DUE.is("bindsIn(" + n + ")", x.bindsIn(n), -1);
            DUE.is("nothing: bindsIn(" + n + ")", new SealFaces().bindsIn(n), -1);
        }
        DUE.is("all open", x.bindsIn(40), 0);
        for (int d = 0; d < 5; d++) {
            x.seal(d, d);
        }
        x.forge(5);
        DUE.is("now", x.bindsIn(0), 15);
        DUE.is("as count(6)", x.count(6), 15);
        DUE.is("in 1", x.bindsIn(1), 0);
        DUE.is("in 39", x.bindsIn(39), 0);
        DUE.is("in 40", x.bindsIn(40), 5);
        DUE.is("nothing: in 0", new SealFaces().bindsIn(0), 0);
        DUE.is("nothing: in 40", new SealFaces().bindsIn(40), 0);
    }

    private static void yearOthers() {
        DUE.says("YEAR (not SEALED: 0); NONE: no such ones.");
        SealFaces x = DUE.told(FIVE + SIX);
        for (int deed : Due.outside(0, 5)) {
            DUE.is("year(" + deed + ", 1)", x.year(deed, 1), -1);
        }
        x.seal(0, 0);
        for (int s : Due.outside(1, 20)) {
            DUE.is("year(0, " + s + ")", x.year(0, s), -1);
            DUE.is("open: year(1, " + s + ")", x.year(1, s), -1);
        }
        DUE.is("open", x.year(5, 20), 0);
        x.forge(5);
        DUE.is("forged", x.year(5, 20), 0);
        DUE.is("sealed", x.year(0, 1), 1);
        DUE.is("sealed", x.year(0, 20), 20);
    }

    private static boolean slipsBy(int seed, int which, int slips) {
        int h = seed;
        for (int it : new int[] {189, which}) {
            h = (h ^ it) * 1103515245 + 12345;
            h ^= h >>> 15;
        }
        return (h >>> 1) % 100 < slips;
    }

    private static void yearSeeds() {
        DUE.says("YEAR by s SEEDS (1 .. 20) from the text's SEED on: in how many of them READS of a DEED is right");
        for (int seed : new int[] {0, 1, 4321, 9980, 9999}) {
            SealFaces x = DUE.told(FIVE + SIX + "slips 50;seed " + seed + ";");
            x.seal(2, 3);
            x.years(7);
            int right = 0;
            for (int s = 1; s <= 20; s++) {
                right += slipsBy(seed + s - 1, 8 * 7 + 3, 50) ? 0 : 1;
                DUE.is("seed " + seed + ": year(3, " + s + ")", x.year(3, s), right);
            }
        }
    }

    private static void nothingHappens() {
        DUE.says("What would be (nothing happens");
        SealFaces x = DUE.told(FIVE + SIX + "treaty u v;grows=1;fades=1;slips 50;");
        x.seal(0, 0);
        x.seal(1, 1);
        x.forge(2);
        x.years(1);
        x.hold(2);
        x.tell(0, 1, false);
        String ahead = Everything.of(x);
        for (int i = -2; i < 4; i++) {
            x.all(i);
            x.fewest(i);
            x.match(i);
            x.greatest(i);
            x.weakest(i);
            x.hands(i);
            x.work(i);
            x.game(i);
            x.breaks(i);
            x.lent(i, 0);
            x.apart(i, 1);
            x.like(i);
            x.twins(0, i);
            x.heals(i);
            x.blank(i);
            x.barest(i);
            x.reads(i);
            x.levelIn(0, 0, i);
            x.printIn(0, 0, i);
            x.bindsIn(i);
            x.year(0, i);
            x.who(1, 3, i);
            x.look(1, 3, i);
        }
        DUE.is("all as ahead", Everything.of(x), ahead);
        DUE.is("what can be undone", x.undo() && x.undo() && x.undo() && x.undo() && !x.undo(), true);
        DUE.is("count(12)", x.count(12), 135);
    }
}
