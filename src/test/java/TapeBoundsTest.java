/** Bounds of promises 1 to 5 and of a run: the tape's bytes, what goes back, what is read, the 512th call. */
public final class TapeBoundsTest {
    private static final Due DUE = new Due();
    private static final int BLANKS = 0x20202020;

    public static void main(String[] args) {
        newObject();
        newObjectIsEmptyText();
        callsOfAnObject();
        twentyBytes();
        highestFirst();
        howManyItHas();
        noMoreThanTwoThousand();
        refusedFeedBringsNothing();
        backOfSome();
        backOfTooMany();
        backBelowNothing();
        whatWentBackIsGone();
        textOfTwoThousand();
        readEmptiesTheTape();
        readOfAnEmptyTape();
        placeOfTheLatest();
        placeWithout();
        DUE.end();
    }

    private static SealFaces fed(int times) {
        SealFaces x = new SealFaces();
        for (int i = 0; i < times; i++) {
            x.feed(BLANKS, BLANKS, BLANKS, BLANKS, BLANKS);
        }
        return x;
    }

    private static int feedBlanks(SealFaces x) {
        return x.feed(BLANKS, BLANKS, BLANKS, BLANKS, BLANKS);
    }

    private static void newObject() {
        DUE.says("No CLERKS, no DEEDS.");
        SealFaces x = new SealFaces();
        DUE.is("count(0)", x.count(0), 0);
        DUE.is("count(1)", x.count(1), 0);
        for (int n : new int[] {0, 1, 4, 5, 6}) {
            DUE.is("clerk(" + n + ", 0)", x.clerk(n, 0), -1);
            DUE.is("deed(" + n + ", 0)", x.deed(n, 0), -1);
            DUE.is("treaty(" + n + ", 0)", x.treaty(n, 0), -1);
            DUE.is("seal(" + n + ", 0)", x.seal(n, 0), false);
            DUE.is("forge(" + n + ")", x.forge(n), false);
            DUE.is("burn(" + n + ")", x.burn(n), false);
            DUE.is("heals(" + n + ")", x.heals(n), -1);
            DUE.is("blank(" + n + ")", x.blank(n), -1);
        }
        DUE.is("count(9)", x.count(9), 0);
    }

    private static void newObjectIsEmptyText() {
        DUE.says("No CLERKS, no DEEDS.");
        SealFaces x = new SealFaces();
        DUE.is("read()", x.read(), 0);
        DUE.is("as a new one", Everything.of(x), Everything.of(new SealFaces()));
    }

    private static void callsOfAnObject() {
        DUE.says("An object is used for at most 512 calls after it has been made");
        SealFaces x = new SealFaces();
        for (int n = 1; n <= 511; n++) {
            DUE.is("years(40), call " + n, x.years(40), 40 * n);
        }
        DUE.is("undo(), the 512th call", x.undo(), true);
        x = new SealFaces();
        for (int n = 1; n <= 511; n++) {
            x.years(40);
        }
        DUE.is("count(3), the 512th call", x.count(3), 20440);
        x = new SealFaces();
        for (int n = 1; n <= 511; n++) {
            x.hold(n % 3);
        }
        DUE.is("years(40), the 512th call", x.years(40), 40);
    }

    private static void twentyBytes() {
        DUE.says("Twenty bytes, the highest of a first, come behind the tape: how many it has.");
        SealFaces x = new SealFaces();
        DUE.is("count(8)", x.count(8), 0);
        DUE.is("feed", x.feed(0, 0, 0, 0, 0), 20);
        DUE.is("count(8)", x.count(8), 20);
        DUE.is("feed", x.feed(Integer.MIN_VALUE, -1, Integer.MAX_VALUE, 1, 0), 40);
        DUE.is("back(15)", x.back(15), 25);
        DUE.is("feed behind what is left", x.feed(0, 0, 0, 0, 0), 45);
    }

    private static void highestFirst() {
        DUE.says("Twenty bytes, the highest of a first, come behind the tape: how many it has.");
        // a byte that is no TOKEN at each place, blanks elsewhere
        for (int place = 0; place < 20; place++) {
            int[] w = {BLANKS, BLANKS, BLANKS, BLANKS, BLANKS};
            w[place / 4] |= 255 << (24 - 8 * (place % 4));
            SealFaces x = new SealFaces();
            x.feed(w[0], w[1], w[2], w[3], w[4]);
            DUE.is("read()", x.read(), 1);
            DUE.is("place()", x.place(), place);
        }
        SealFaces x = new SealFaces();
        feedBlanks(x);
        x.feed(BLANKS, BLANKS, BLANKS, BLANKS, 0x2020203b);
        x.read();
        DUE.is("place() behind the first twenty", x.place(), 39);
    }

    private static void howManyItHas() {
        DUE.says("Twenty bytes, the highest of a first, come behind the tape: how many it has.");
        SealFaces x = new SealFaces();
        for (int n = 20; n <= 2000; n += 20) {
            DUE.is("feed", feedBlanks(x), n);
        }
    }

    private static void noMoreThanTwoThousand() {
        DUE.says("NONE, and nothing comes, if it would have more than 2,000.");
        SealFaces x = fed(99);
        DUE.is("at 1980", x.count(8), 1980);
        DUE.is("feed up to 2000", feedBlanks(x), 2000);
        DUE.is("feed beyond 2000", feedBlanks(x), -1);
        for (int gone = 1; gone < 20; gone++) {
            DUE.is("back(1)", x.back(1), 2000 - gone);
            DUE.is("feed up to " + (2020 - gone), feedBlanks(x), -1);
        }
        DUE.is("back(1)", x.back(1), 1980);
        DUE.is("feed up to 2000 again", feedBlanks(x), 2000);
        x.back(21);
        DUE.is("feed up to 1999", feedBlanks(x), 1999);
    }

    private static void refusedFeedBringsNothing() {
        DUE.says("NONE, and nothing comes, if it would have more than 2,000.");
        DUE.changesNothing("feed of a 101st", () -> fed(100), x -> x.feed(-1, -1, -1, -1, -1), -1);
        SealFaces x = fed(100);
        x.back(1);
        DUE.is("feed", x.feed(-1, -1, -1, -1, -1), -1);
        DUE.is("count(8)", x.count(8), 1999);
        DUE.is("read() of blanks alone", x.read(), 0);
        x = fed(100);
        DUE.is("feed", x.feed(-1, -1, -1, -1, -1), -1);
        DUE.is("read() of blanks alone", x.read(), 0);
    }

    private static void backOfSome() {
        DUE.says("The last n bytes of the tape go: how many it has.");
        SealFaces x = fed(2);
        DUE.is("back(0)", x.back(0), 40);
        DUE.is("back(1)", x.back(1), 39);
        DUE.is("back(38)", x.back(38), 1);
        DUE.is("back(1)", x.back(1), 0);
        DUE.is("back(0) of nothing", x.back(0), 0);
        x = fed(100);
        DUE.is("back(2000)", x.back(2000), 0);
        DUE.is("feed", feedBlanks(x), 20);
        DUE.is("back of just all", x.back(20), 0);
    }

    private static void backOfTooMany() {
        DUE.says("NONE, and nothing goes, if it has not so many");
        SealFaces x = new SealFaces();
        DUE.is("back(1) of nothing", x.back(1), -1);
        x = fed(3);
        for (int n : new int[] {61, 62, 80, 2000, 2001, Integer.MAX_VALUE - 1, Integer.MAX_VALUE}) {
            DUE.is("back(" + n + ")", x.back(n), -1);
            DUE.is("count(8)", x.count(8), 60);
        }
        DUE.changesNothing("back(61)", () -> fed(3), y -> y.back(61), -1);
        DUE.is("back(60)", x.back(60), 0);
        x = fed(100);
        DUE.is("back(2001)", x.back(2001), -1);
        DUE.is("count(8)", x.count(8), 2000);
    }

    private static void backBelowNothing() {
        DUE.says("NONE, and nothing goes, if .. n is below 0.");
        SealFaces x = fed(3);
        for (int n : new int[] {-1, -2, -20, -60, -2000, Integer.MIN_VALUE + 1, Integer.MIN_VALUE}) {
            DUE.is("back(" + n + ")", x.back(n), -1);
            DUE.is("count(8)", x.count(8), 60);
        }
        DUE.is("feed", feedBlanks(x), 80);
        DUE.is("back(-1) of nothing", new SealFaces().back(-1), -1);
    }

    private static void whatWentBackIsGone() {
        DUE.says("The last n bytes of the tape go: how many it has.");
        SealFaces x = new SealFaces();
        Due.feed(x, "seed 1;seed");
        x.back(4);
        DUE.is("read() of seed 1;", x.read(), 0);
        Due.feed(x, "clerk a 1 2 3 4;clerk b 1 2 3 4;");
        x.back(16);
        Due.feed(x, "clerk c 5 6 7 8;");
        DUE.is("read()", x.read(), 0);
        DUE.is("count(0)", x.count(0), 2);
        DUE.is("clerk(1, 6)", x.clerk(1, 6), 5);
    }

    private static void textOfTwoThousand() {
        DUE.says("A TEXT has 2,000 bytes at most.");
        SealFaces x = DUE.told(" ".repeat(1984) + "clerk a 1 2 3 4;");
        DUE.is("count(0)", x.count(0), 1);
        DUE.told(" ".repeat(1983) + "clerk a 1 2 3 4;");
        DUE.fault(" ".repeat(1999) + "!", 1, 1999);
        DUE.fault(" ".repeat(1998) + "!", 1, 1998);
        DUE.fault("seed 1" + " ".repeat(1994), 1, 2000);
        DUE.fault("seed 1" + " ".repeat(1993), 1, 1999);
        DUE.told("seed 1" + " ".repeat(1993) + ";");
        DUE.fault(" ".repeat(1995) + "seeds", 1, 1995);
        DUE.fault(" ".repeat(1991) + "seed 1234", 1, 2000);
        DUE.fault(" ".repeat(1990) + "seed 12345", 1, 1995);
        DUE.fault(" ".repeat(1986) + "clerk abcdefgh", 1, 2000);
        DUE.fault(" ".repeat(1985) + "clerk abcdefghi", 1, 1991);
    }

    private static void readEmptiesTheTape() {
        DUE.says("The tape, which is empty then, is read: 0, or the number of its FAULT.");
        SealFaces x = fed(100);
        DUE.is("read()", x.read(), 0);
        DUE.is("count(8)", x.count(8), 0);
        DUE.is("back(1)", x.back(1), -1);
        Due.feed(x, "!".repeat(2000));
        DUE.is("count(8)", x.count(8), 2000);
        DUE.is("read()", x.read(), 1);
        DUE.is("count(8)", x.count(8), 0);
        DUE.is("feed", feedBlanks(x), 20);
        DUE.is("read() of what came since", x.read(), 0);
        for (String text : new String[] {"!", "takes=(((((((1;", "deed a 1 1 1 1;treaty a a;", "treaty a b;", "slips 101;"}) {
            Due.feed(x, text);
            x.read();
            DUE.is("count(8) behind " + text, x.count(8), 0);
        }
    }

    private static void readOfAnEmptyTape() {
        DUE.says("The tape, which is empty then, is read: 0, or the number of its FAULT.");
        SealFaces x = DUE.told("clerk a 1 2 3 4;deed b 1 2 3 4;deed c 1 2 3 4;treaty b c;");
        x.years(3);
        DUE.is("read()", x.read(), 0);
        DUE.is("as a new one", Everything.of(x), Everything.of(new SealFaces()));
        DUE.is("nothing kept, as in a new one", Everything.kept(x), Everything.kept(new SealFaces()));
    }

    private static void placeOfTheLatest() {
        DUE.says("The byte of the latest read()'s FAULT; NONE without.");
        SealFaces x = new SealFaces();
        Due.read(x, "   !");
        DUE.is("place()", x.place(), 3);
        Due.read(x, "!");
        DUE.is("place() at the first byte", x.place(), 0);
        DUE.is("place() asked again", x.place(), 0);
        Due.feed(x, "     !");
        DUE.is("place() ahead of the next read()", x.place(), 0);
        x.years(2);
        x.undo();
        DUE.is("place() behind other calls", x.place(), 0);
        x.read();
        DUE.is("place()", x.place(), 5);
    }

    private static void placeWithout() {
        DUE.says("The byte of the latest read()'s FAULT; NONE without.");
        SealFaces x = new SealFaces();
        DUE.is("place() ahead of all", x.place(), -1);
        Due.read(x, "!");
        Due.read(x, "seed 1;");
        DUE.is("place() behind one without", x.place(), -1);
        Due.read(x, "!");
        x.read();
        DUE.is("place() behind an empty one", x.place(), -1);
    }
}
