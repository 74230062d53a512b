/** Promises 15 to 35: what would be. */
public final class WouldBeTest {
    private static final Due DUE = new Due();
    private static final String TWO = "clerk a 1 4 4 4;clerk b 1 4 4 4;";
    private static final String XYZ = "deed x 10 2 0 0;deed y 20 2 0 0;deed z 30 3 0 0;";

    public static void main(String[] args) {
        alls();
        allsBehindAll();
        allsChangeWithWhatIs();
        fewests();
        matches();
        greatests();
        weakests();
        handsAndWork();
        games();
        breaks();
        lents();
        aparts();
        likes();
        twins();
        heals();
        blanks();
        barests();
        reads();
        seedsOfYears();
        inYears();
        nothingHappens();
        DUE.end();
    }

    private static void row(String name, SealFaces x, int... want) {
        for (int i = -1; i < want.length - 1; i++) {
            DUE.is(name + ": all(" + i + ")", x.all(i), want[i + 1]);
        }
    }

    private static void matchRow(String name, SealFaces x, int... want) {
        for (int i = -1; i < want.length - 1; i++) {
            DUE.is(name + ": match(" + i + ")", x.match(i), want[i + 1]);
        }
    }

    private static void both(String call, int zero, int one, int wantZero, int wantOne) {
        DUE.is(call + "(0)", zero, wantZero);
        DUE.is(call + "(1)", one, wantOne);
    }

    private static void alls() {
        SealFaces x = DUE.told(TWO + XYZ);
        row("the lowest first", x, 60, 0, 0, 1, -1);
        DUE.is("all(-2)", x.all(-2), -1);
        DUE.is("all(MIN)", x.all(Integer.MIN_VALUE), -1);
        row("open ahead of all clerks", DUE.told(TWO + XYZ + "binds = 0;"), 0, -2, -2, -2, -1);
        // one clerk of 4: the two of 2 bind 30, the one of 3 binds 30: the first left open goes ahead
        row("open ahead, for the first deed", DUE.told("clerk a 1 4 4 4;" + XYZ), 30, -2, -2, 0, -1);
        row("only one of three", DUE.told("clerk a 1 3 4 4;" + XYZ), 30, -2, -2, 0, -1);
        row("nobody", DUE.told(XYZ), 0, -2, -2, -2, -1);
        row("none bare", DUE.told("clerk a 1 4 0 0;deed x 9 2 0 0;deed y 8 2 0 0;"), 9, 0, -2);
        row("five and six", DUE.told("clerk a 1 9 1 0;clerk b 1 9 1 0;clerk c 1 9 1 0;clerk d 1 9 1 0;clerk e 1 9 1 0;"
            + "deed u 99 9 0 0;deed v 99 9 0 0;deed w 99 9 0 0;deed x 99 9 0 0;deed y 99 9 0 0;deed z 99 0 0 0;"),
            594, 0, 1, 2, 3, 4, 0);
    }

    private static void allsBehindAll() {
        // both by one clerk: 10 / 2 + 20 / 2, less than 20 alone
        row("by how many are sealed behind all", DUE.told("clerk a 1 9 9 9;deed x 10 1 1 1;deed y 20 1 1 1;binds = worth/sealed;"), 20, -2, 0);
        row("two clerks", DUE.told("clerk a 1 9 9 9;clerk b 1 9 9 9;deed x 10 1 1 1;deed y 20 1 1 1;binds = worth/sealed;"), 30, 0, 1);
        // takes 1 and 1 more for each one sealed ahead; print is what was taken
        row("by prints", DUE.told("clerk a 1 9 9 9;deed x 1 0 0 0;deed y 1 0 0 0;takes = 1+sealed;binds = print;"), 9, 0, 0);
        row("who can then", DUE.told("clerk a 1 5 5 5;deed x 1 0 0 0;deed y 8 0 0 0;deed z 2 0 0 0;takes = 2*(1+sealed);"), 8, -2, 0, -2);
    }

    private static void allsChangeWithWhatIs() {
        SealFaces x = DUE.told("clerk a 1 4 4 4;" + XYZ + "grows = 1;");
        DUE.is("all(-1)", x.all(-1), 30);
        x.seal(0, 0);
        row("a sealed one is not counted", x, 20, -2, 0, -2);
        x.years(1);
        row("a year on", x, 30, -2, -2, 0);
        x.forge(2);
        row("one forged", x, 20, -2, 0, -2);
        x.undo();
        x.undo();
        row("undone", x, 20, -2, 0, -2);
        x.undo();
        row("all undone", x, 30, -2, -2, 0);
        x.hold(0);
        x.seal(0, 2);
        row("sealed", x, 0, -2, -2, -2);
        x.restore(0);
        row("gone on from", x, 30, -2, -2, 0);
        Due.read(x, "clerk a 1 2 2 2;deed x 7 1 1 1;");
        row("another text", x, 7, 0, -1);
        x = DUE.told("clerk a 1 9 9 9;deed x 10 1 1 1;deed y 30 1 1 1;deed z 10 1 1 1;binds = worth/sealed;");
        x.seal(0, 0);
        row("sealed ahead counts as sealed", x, 15, -2, 0, -2);
    }

    private static void fewests() {
        SealFaces x = DUE.told(TWO + XYZ);
        both("two needed: fewest", x.fewest(0), x.fewest(1), 2, 3);
        DUE.is("fewest(2)", x.fewest(2), -1);
        DUE.is("fewest(-1)", x.fewest(-1), -1);
        x = DUE.told(TWO + "clerk c 1 9 9 9;" + XYZ);
        both("one can all: fewest", x.fewest(0), x.fewest(1), 1, 4);
        x = DUE.told(TWO + "clerk c 1 4 4 4;" + XYZ);
        both("the least bits: fewest", x.fewest(0), x.fewest(1), 2, 3);
        x = DUE.told("clerk a 1 4 4 4;" + XYZ);
        both("not by all: fewest", x.fewest(0), x.fewest(1), -2, -2);
        DUE.is("not by all: fewest(2)", x.fewest(2), -1);
        x.seal(0, 0);
        x.forge(2);
        both("open ones alone: fewest", x.fewest(0), x.fewest(1), 1, 1);
        x.forge(1);
        both("none open: fewest", x.fewest(0), x.fewest(1), 0, 0);
        x = DUE.told("clerk a 1 9 9 9;deed x 1 0 0 0;deed y 1 0 0 0;takes = if sealed<1 then 4 else 6;");
        both("one behind the other: fewest", x.fewest(0), x.fewest(1), -2, -2);
    }

    private static void matches() {
        matchRow("each to another", DUE.told(TWO + XYZ), 2, 0, 1, -2, -1);
        // a can only x, b both: x to a
        matchRow("so that most have one", DUE.told("clerk b 1 9 9 9;clerk a 1 2 2 2;deed x 1 1 1 1;deed y 1 5 5 5;"), 2, 1, 0);
        matchRow("nobody behind all", DUE.told("clerk a 1 4 4 4;" + XYZ), 1, 0, -2, -2);
        matchRow("as if the only one", DUE.told("clerk a 1 4 4 4;clerk b 1 1 1 1;deed x 1 3 3 3;deed y 1 3 3 3;deed z 1 0 0 0;"), 2, 0, -2, 1);
        SealFaces x = DUE.told(TWO + XYZ);
        x.forge(0);
        matchRow("one forged", x, 2, -2, 0, 1);
        x.seal(0, 1);
        matchRow("one sealed", x, 1, -2, -2, 1);
        DUE.is("match(-2)", x.match(-2), -1);
        DUE.is("match(3)", x.match(3), -1);
        matchRow("no clerks", DUE.told(XYZ), 0, -2, -2, -2, -1);
    }

    private static void greatests() {
        SealFaces x = DUE.told(TWO + XYZ);
        both("all open: greatest", x.greatest(0), x.greatest(1), 0, 0);
        x.seal(0, 1);
        both("greatest", x.greatest(0), x.greatest(1), 1, 20);
        x.seal(1, 2);
        both("greatest", x.greatest(0), x.greatest(1), 2, 30);
        DUE.is("greatest(2)", x.greatest(2), -1);
        DUE.is("greatest(-1)", x.greatest(-1), -1);
        x = DUE.told(TWO + XYZ + "binds = 5;");
        x.seal(0, 1);
        x.seal(1, 2);
        both("the first: greatest", x.greatest(0), x.greatest(1), 1, 5);
        x = DUE.told(TWO);
        both("no deeds: greatest", x.greatest(0), x.greatest(1), -2, -2);
        DUE.is("no deeds: greatest(5)", x.greatest(5), -1);
    }

    private static void weakests() {
        SealFaces x = DUE.told("clerk a 1 9 9 9;clerk b 1 9 9 9;" + XYZ + "treaty z y;treaty x y;treaty y x;treaty x z;");
        both("none holds: weakest", x.weakest(0), x.weakest(1), -2, -2);
        x.seal(0, 1);
        x.seal(1, 2);
        both("one holds: weakest", x.weakest(0), x.weakest(1), 0, 20);
        x.seal(1, 0);
        both("the first of least: weakest", x.weakest(0), x.weakest(1), 1, 10);
        DUE.is("weakest(2)", x.weakest(2), -1);
        DUE.is("weakest(-1)", x.weakest(-1), -1);
    }

    private static void handsAndWork() {
        SealFaces x = DUE.told("clerk a 1 2 4 4;clerk b 1 4 4 4;clerk c 1 3 0 0;" + XYZ);
        DUE.is("hands(0)", x.hands(0), 7);
        DUE.is("hands(2)", x.hands(2), 2);
        DUE.is("work(0)", x.work(0), 3);
        DUE.is("work(1)", x.work(1), 7);
        DUE.is("work(2)", x.work(2), 3);
        x.seal(1, 0);
        DUE.is("hands of a sealed one", x.hands(0), 0);
        DUE.is("hands(1)", x.hands(1), 7);
        DUE.is("hands(2)", x.hands(2), 0);
        DUE.is("work(1)", x.work(1), 2);
        x.forge(1);
        DUE.is("hands of a forged one", x.hands(1), 0);
        DUE.is("work(1)", x.work(1), 0);
        DUE.is("hands(3)", x.hands(3), -1);
        DUE.is("hands(-1)", x.hands(-1), -1);
        DUE.is("work(3)", x.work(3), -1);
        DUE.is("work(-1)", x.work(-1), -1);
    }

    private static SealFaces sealed(String deeds, String sealed) {
        SealFaces x = DUE.told("clerk a 1 9 9 9;" + deeds);
        for (int i = 0; i < sealed.length(); i++) {
            if (sealed.charAt(i) == 's') {
                x.seal(0, i);
            } else if (sealed.charAt(i) == 'f') {
                x.forge(i);
            }
        }
        return x;
    }

    private static void games() {
        String deeds = "deed u 3 1 0 0;deed v 5 1 0 0;deed w 5 1 0 0;deed x 9 1 0 0;";
        SealFaces x = sealed(deeds, "oooo");
        both("none: game", x.game(0), x.game(1), 0, -2);
        x = sealed(deeds, "osso");
        both("two alike: game", x.game(0), x.game(1), 0, 1);
        x = sealed(deeds, "ssso");
        // 3 first: the other takes 5, the first 5: 3 more, just as 5 - 5 + 3
        both("as good, the lowest: game", x.game(0), x.game(1), 3, 0);
        x = sealed(deeds, "ssss");
        both("all: game", x.game(0), x.game(1), 9 - 5 + 5 - 3, 3);
        x = sealed(deeds, "fosf");
        both("forged ones bind nothing: game", x.game(0), x.game(1), 5, 2);
        x = sealed(deeds, "ffff");
        both("forged ones: game", x.game(0), x.game(1), 0, 0);
        DUE.is("game(2)", x.game(2), -100000);
        DUE.is("game(-1)", x.game(-1), -100000);
    }

    private static void breaks() {
        SealFaces x = DUE.told("clerk a 1 9 9 9;clerk b 1 9 9 9;clerk c 1 9 9 9;clerk d 1 9 9 9;"
            + "deed u 1 1 0 0;deed v 1 1 0 0;deed w 1 1 0 0;deed x 1 1 0 0;treaty u v;treaty w x;treaty v x;treaty u x;");
        both("none holds: breaks", x.breaks(0), x.breaks(1), 0, 0);
        x.seal(3, 0);
        x.seal(2, 1);
        both("one: the least bits: breaks", x.breaks(0), x.breaks(1), 1, 4);
        x.seal(1, 2);
        x.seal(0, 3);
        // d-c, b-a, c-a, d-a: a and c, not a alone; a and d, too
        both("two: breaks", x.breaks(0), x.breaks(1), 2, 5);
        x.burn(1);
        both("a in all: breaks", x.breaks(0), x.breaks(1), 1, 1);
        DUE.is("breaks(2)", x.breaks(2), -1);
        DUE.is("breaks(-1)", x.breaks(-1), -1);
    }

    private static void lents() {
        SealFaces x = DUE.told("clerk a 1 9 9 9;clerk b 1 9 9 9;deed u 1 1 2 3;deed v 1 4 0 1;deed w 1 2 2 2;fades = 1;");
        DUE.is("lent(0, 0)", x.lent(0, 0), 0);
        x.seal(0, 0);
        x.seal(0, 1);
        x.seal(1, 2);
        DUE.is("lent(0, 0)", x.lent(0, 0), 5);
        DUE.is("lent(0, 1)", x.lent(0, 1), 2);
        DUE.is("lent(0, 2)", x.lent(0, 2), 4);
        DUE.is("lent(1, 2)", x.lent(1, 2), 2);
        x.years(1);
        DUE.is("faded: lent(0, 0)", x.lent(0, 0), 3);
        x.burn(1);
        x.forge(1);
        DUE.is("forged: lent(0, 0)", x.lent(0, 0), 0);
        DUE.is("lent(2, 0)", x.lent(2, 0), -1);
        DUE.is("lent(-1, 0)", x.lent(-1, 0), -1);
        DUE.is("lent(0, 3)", x.lent(0, 3), -1);
        DUE.is("lent(0, -1)", x.lent(0, -1), -1);
    }

    private static void aparts() {
        SealFaces x = DUE.told("clerk a 1 9 9 9;deed u 1 1 2 3;deed v 1 4 0 1;deed w 1 2 2 2;");
        DUE.is("open ones: apart(0, 1)", x.apart(0, 1), 0);
        x.seal(0, 0);
        x.forge(1);
        DUE.is("apart(0, 1)", x.apart(0, 1), 7);
        DUE.is("apart(1, 0)", x.apart(1, 0), 7);
        DUE.is("apart(0, 2)", x.apart(0, 2), 6);
        DUE.is("apart(1, 1)", x.apart(1, 1), 0);
        DUE.is("apart(0, 3)", x.apart(0, 3), -1);
        DUE.is("apart(3, 0)", x.apart(3, 0), -1);
        DUE.is("apart(-1, 0)", x.apart(-1, 0), -1);
        DUE.is("apart(0, -1)", x.apart(0, -1), -1);
    }

    private static void likes() {
        SealFaces x = DUE.told("clerk a 1 9 9 9;deed t 1 0 0 0;deed u 1 1 2 3;deed v 1 4 0 1;deed w 1 2 2 2;deed x 1 5 1 1;");
        both("none: like", x.like(0), x.like(1), -2, -2);
        x.seal(0, 1);
        both("one: like", x.like(0), x.like(1), -2, -2);
        x.forge(2);
        both("two: like", x.like(0), x.like(1), 12, 7);
        x.seal(0, 3);
        both("three: like", x.like(0), x.like(1), 13, 2);
        x.forge(4);
        both("the first of alike ones: like", x.like(0), x.like(1), 13, 2);
        x.burn(1);
        both("the last ones: like", x.like(0), x.like(1), 24, 2);
        DUE.is("like(2)", x.like(2), -1);
        DUE.is("like(-1)", x.like(-1), -1);
    }

    private static void twins() {
        SealFaces x = DUE.told("clerk a 1 9 1 5;clerk b 1 5 2 0;clerk c 1 6 4 5;clerk d 1 7 6 4;deed u 1 1 0 0;");
        both("twins 0", x.twins(0, 0), x.twins(0, 1), 12, 1);
        both("twins 1", x.twins(1, 0), x.twins(1, 1), 1, 1);
        both("twins 2", x.twins(2, 0), x.twins(2, 1), 2, 0);
        x.seal(3, 0);
        both("levels now: twins", x.twins(0, 0), x.twins(0, 1), 23, 0);
        DUE.is("twins(3, 0)", x.twins(3, 0), -1);
        DUE.is("twins(-1, 0)", x.twins(-1, 0), -1);
        DUE.is("twins(0, 2)", x.twins(0, 2), -1);
        DUE.is("twins(0, -1)", x.twins(0, -1), -1);
        x = DUE.told("clerk a 1 1 1 1;");
        both("one: twins", x.twins(0, 0), x.twins(0, 1), -2, -2);
        DUE.is("one: twins(0, 2)", x.twins(0, 2), -1);
    }

    private static int healsBy(String law) {
        SealFaces x = DUE.told("clerk a 1 9 9 9;deed u 1 3 1 0;grows = " + law + ";");
        x.seal(0, 0);
        return x.heals(0);
    }

    private static void heals() {
        SealFaces x = DUE.told("clerk a 1 9 9 9;deed u 1 1 1 1;");
        DUE.is("as at first", x.heals(0), 0);
        DUE.is("heals(1)", x.heals(1), -1);
        DUE.is("heals(-1)", x.heals(-1), -1);
        DUE.is("not", healsBy("0"), -2);
        DUE.is("by 1", healsBy("1"), 3);
        DUE.is("by 2", healsBy("2"), 2);
        DUE.is("the chin alone", healsBy("feature/2"), -2);
        DUE.is("every other year", healsBy("year-2*(year/2)"), 6);
        DUE.is("behind 100", healsBy("if year<99 then 0 else 9"), 100);
        DUE.is("behind 101", healsBy("if year<100 then 0 else 9"), -2);
    }

    private static int blankBy(String law) {
        SealFaces x = DUE.told("clerk a 1 9 9 9;deed u 1 3 1 0;fades = " + law + ";");
        x.seal(0, 0);
        return x.blank(0);
    }

    private static void blanks() {
        DUE.is("not", blankBy("0"), -2);
        DUE.is("by 1", blankBy("1"), 3);
        DUE.is("by 2", blankBy("2"), 2);
        DUE.is("by what there is", blankBy("print"), 1);
        DUE.is("the chin alone", blankBy("feature/2"), -2);
        DUE.is("behind 100", blankBy("if year<99 then 0 else 9"), 100);
        DUE.is("behind 101", blankBy("if year<100 then 0 else 9"), -2);
        SealFaces x = DUE.told("deed u 1 3 1 0;deed v 1 0 0 0;fades = 1;");
        DUE.is("open", x.blank(0), 0);
        x.forge(0);
        x.forge(1);
        DUE.is("forged", x.blank(0), 3);
        DUE.is("blank from the start", x.blank(1), 0);
        x.years(1);
        DUE.is("a year on", x.blank(0), 2);
        DUE.is("blank(2)", x.blank(2), -1);
        DUE.is("blank(-1)", x.blank(-1), -1);
    }

    private static void barests() {
        SealFaces x = DUE.told("clerk a 1 5 5 5;clerk b 1 1 9 3;clerk c 1 9 2 2;deed u 1 0 0 3;");
        both("the first: barest", x.barest(0), x.barest(1), 1, 13);
        x.seal(0, 0);
        both("levels now: barest", x.barest(0), x.barest(1), 0, 12);
        DUE.is("barest(2)", x.barest(2), -1);
        DUE.is("barest(-1)", x.barest(-1), -1);
        x = DUE.told("deed u 1 0 0 3;");
        both("no clerks: barest", x.barest(0), x.barest(1), -2, -2);
    }

    private static final String THREE = "clerk a 1 9 9 9;clerk b 1 9 9 9;clerk c 1 9 9 9;deed u 1 1 1 1;deed v 1 1 1 1;deed w 1 1 1 1;";

    private static void reads() {
        // LOT 100 of seed 0: 31, 72, 98 for 0, 1, 2 (year 0), 12, 91, 8 for 8, 9, 10 (year 1)
        SealFaces x = DUE.told(THREE + "slips 32;");
        DUE.is("open", x.reads(0), -2);
        x.seal(0, 0);
        x.seal(2, 1);
        DUE.is("a slip", x.reads(0), 1);
        DUE.is("no slip", x.reads(1), 2);
        x.years(1);
        DUE.is("a year on, a slip", x.reads(0), 1);
        DUE.is("a year on, no slip", x.reads(1), 2);
        x.forge(2);
        DUE.is("forged", x.reads(2), -2);
        DUE.is("reads(3)", x.reads(3), -1);
        DUE.is("reads(-1)", x.reads(-1), -1);
        x = DUE.told(THREE + "slips 31;");
        x.seal(0, 0);
        DUE.is("31 is not less than 31", x.reads(0), 0);
        x = DUE.told(THREE + "slips 73;");
        x.seal(2, 1);
        DUE.is("behind the last the first", x.reads(1), 0);
        x = DUE.told(THREE + "slips 63;seed 1;");
        x.seal(0, 0);
        DUE.is("another seed", x.reads(0), 0);
        x = DUE.told(THREE + "slips 64;seed 1;");
        x.seal(0, 0);
        DUE.is("another seed, a slip", x.reads(0), 1);
    }

    private static void seedsOfYears() {
        // LOT 100 of 0 and seeds 0 .. 19: 31 63 81 56 82 78 60 6 9 23 88 11 49 33 77 82 46 51 46 4
        SealFaces x = DUE.told(THREE + "slips 50;");
        DUE.is("open", x.year(0, 5), 0);
        x.seal(0, 0);
        x.forge(2);
        DUE.is("one seed", x.year(0, 1), 0);
        DUE.is("two", x.year(0, 2), 1);
        DUE.is("seven", x.year(0, 7), 6);
        DUE.is("twenty", x.year(0, 20), 10);
        DUE.is("forged", x.year(2, 5), 0);
        DUE.is("year(0, 0)", x.year(0, 0), -1);
        DUE.is("year(0, 21)", x.year(0, 21), -1);
        DUE.is("open, no such s", x.year(1, 0), -1);
        DUE.is("year(3, 1)", x.year(3, 1), -1);
        DUE.is("year(-1, 1)", x.year(-1, 1), -1);
        // of seeds 9999 .. 10003: 99 63 18 56 64
        x = DUE.told(THREE + "slips 60;seed 9999;");
        x.seal(0, 0);
        DUE.is("behind the last seed", x.year(0, 5), 3);
        x = DUE.told("clerk a 1 9 9 9;deed u 1 1 1 1;slips 100;");
        x.seal(0, 0);
        DUE.is("the next of one is the same", x.year(0, 20), 20);
    }

    private static void inYears() {
        SealFaces x = DUE.told("clerk a 10 9 9 9;deed u 20 5 4 9;deed v 7 1 0 0;grows = feature+1;fades = if year<2 then 1 else 2;binds = worth + print + age + year;");
        x.seal(0, 0);
        x.years(1);
        // levels 4 5 0 -> 5 7 3, prints 5 4 9 -> 4 3 8
        DUE.is("levelIn 0", x.levelIn(0, 2, 0), 3);
        DUE.is("levelIn 1", x.levelIn(0, 1, 1), 9);
        DUE.is("levelIn 2", x.levelIn(0, 2, 2), 9);
        DUE.is("levelIn 2", x.levelIn(0, 0, 2), 7);
        DUE.is("levelIn 40", x.levelIn(0, 0, 40), 9);
        DUE.is("levelIn 41", x.levelIn(0, 0, 41), -1);
        DUE.is("levelIn -1", x.levelIn(0, 0, -1), -1);
        DUE.is("levelIn(1, 0, 1)", x.levelIn(1, 0, 1), -1);
        DUE.is("levelIn(-1, 0, 1)", x.levelIn(-1, 0, 1), -1);
        DUE.is("levelIn(0, 3, 1)", x.levelIn(0, 3, 1), -1);
        DUE.is("levelIn(0, -1, 1)", x.levelIn(0, -1, 1), -1);
        DUE.is("printIn 0", x.printIn(0, 0, 0), 4);
        DUE.is("printIn 1", x.printIn(0, 0, 1), 3);
        DUE.is("printIn 2", x.printIn(0, 0, 2), 1);
        DUE.is("printIn 3", x.printIn(0, 0, 3), 0);
        DUE.is("printIn 40", x.printIn(0, 2, 40), 0);
        DUE.is("printIn of an open one", x.printIn(1, 0, 2), 0);
        DUE.is("printIn 41", x.printIn(0, 0, 41), -1);
        DUE.is("printIn -1", x.printIn(0, 0, -1), -1);
        DUE.is("printIn(2, 0, 1)", x.printIn(2, 0, 1), -1);
        DUE.is("printIn(-1, 0, 1)", x.printIn(-1, 0, 1), -1);
        DUE.is("printIn(0, 3, 1)", x.printIn(0, 3, 1), -1);
        DUE.is("printIn(0, -1, 1)", x.printIn(0, -1, 1), -1);
        // worth 20; prints 15, 12, 6 (1 0 5); age 11, 12, 13; year 1, 2, 3
        DUE.is("bindsIn 0", x.bindsIn(0), 47);
        DUE.is("bindsIn 1", x.bindsIn(1), 46);
        DUE.is("bindsIn 2", x.bindsIn(2), 42);
        DUE.is("bindsIn 40", x.bindsIn(40), 99);
        DUE.is("bindsIn 41", x.bindsIn(41), -1);
        DUE.is("bindsIn -1", x.bindsIn(-1), -1);
        x.forge(1);
        DUE.is("a forged one binds nothing", x.bindsIn(2), 42);
        x.burn(1);
        x.seal(0, 1);
        // and 7 + 1, 0 of print + age and year
        DUE.is("two added", x.bindsIn(1), 46 + 7 + 0 + 12 + 2);
    }

    private static void nothingHappens() {
        SealFaces x = DUE.told(THREE + "grows = 1;fades = 1;treaty u v;");
        x.seal(0, 0);
        x.seal(1, 1);
        x.all(-1);
        x.fewest(0);
        x.match(-1);
        x.game(0);
        x.breaks(0);
        x.heals(0);
        x.blank(0);
        x.levelIn(0, 0, 5);
        x.printIn(0, 0, 5);
        x.bindsIn(5);
        x.year(0, 5);
        x.reads(0);
        int[] want = {3, 3, 1, 0, 4, 0, 2, 1, 0, 2, 0, 0, 75, 6, 0, 0};
        for (int what = 0; what < want.length; what++) {
            DUE.is("count(" + what + ") as ahead", x.count(what), want[what]);
        }
    }
}
