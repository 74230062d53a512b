/** Promises 36 to 39: what is told of a print, who it was, what to look at next. */
public final class ToldTest {
    private static final Due DUE = new Due();
    // takes: a 1 5 0, b 3 5 0, c 5 5 2, d 7 9 2 of deed u
    private static final String TEXT = "clerk a 1 9 9 9;clerk b 3 9 9 9;clerk c 5 9 9 9;clerk d 7 9 9 9;"
        + "deed u 1 0 0 0;deed v 1 0 0 0;"
        + "takes = if feature<1 then age else if feature<2 then 5+4*(which/3) else 2*(which/2);";

    public static void main(String[] args) {
        tells();
        forgets();
        whos();
        whosWhoCan();
        looks();
        DUE.end();
    }

    private static void tells() {
        SealFaces x = new SealFaces();
        DUE.is("no such feature", x.tell(3, 1, true), -1);
        DUE.is("no such feature", x.tell(-1, 1, true), -1);
        DUE.is("no such v", x.tell(0, 10, true), -1);
        DUE.is("no such v", x.tell(0, -1, true), -1);
        DUE.is("nothing told", x.count(10), 0);
        for (int i = 0; i < 20; i++) {
            DUE.is("tell " + i, x.tell(i % 3, i % 10, i % 2 == 0), i);
        }
        DUE.is("a 21st", x.tell(0, 1, true), -1);
        DUE.is("count(10)", x.count(10), 20);
    }

    private static void forgets() {
        SealFaces x = DUE.told(TEXT);
        DUE.is("forget() of nothing", x.forget(), 0);
        x.tell(0, 9, true);
        x.tell(0, 9, true);
        DUE.is("forget()", x.forget(), 2);
        DUE.is("count(10)", x.count(10), 0);
        DUE.is("forget() again", x.forget(), 0);
        DUE.is("numbered from 0 on", x.tell(0, 0, true), 0);
        x.years(1);
        x.undo();
        DUE.is("told is not undone", x.count(10), 1);
    }

    private static void who(SealFaces x, int k, int many, int bits) {
        DUE.is("who(" + k + ", 0, 0)", x.who(k, 0, 0), many);
        DUE.is("who(" + k + ", 0, 1)", x.who(k, 0, 1), bits);
    }

    private static void whos() {
        SealFaces x = DUE.told(TEXT);
        who(x, 0, 4, 15);
        x.tell(0, 3, true);
        x.tell(1, 9, false);
        x.tell(2, 2, true);
        x.tell(0, 5, false);
        who(x, 0, 4, 15);
        who(x, 1, 3, 14);
        who(x, 2, 2, 6);
        who(x, 3, 1, 4);
        who(x, 4, 0, 0);
        DUE.is("k told too few", x.who(5, 0, 0), -1);
        DUE.is("k below 0", x.who(-1, 0, 0), -1);
        DUE.is("no such deed", x.who(0, 2, 0), -1);
        DUE.is("no such deed", x.who(0, -1, 0), -1);
        DUE.is("no such what", x.who(0, 0, 2), -1);
        DUE.is("no such what", x.who(0, 0, -1), -1);
        x.forge(0);
        DUE.is("not open", x.who(0, 0, 0), -1);
        x.seal(0, 1);
        DUE.is("not open", x.who(0, 1, 1), -1);
        x = DUE.told(TEXT);
        x.tell(0, 0, true);
        who(x, 1, 4, 15);
        x.tell(0, 0, false);
        who(x, 2, 0, 0);
    }

    private static void whosWhoCan() {
        SealFaces x = DUE.told(TEXT);
        x.seal(2, 1);
        // c has 4 of the brow and the cheek left, too little
        who(x, 0, 3, 11);
        x.tell(2, 2, true);
        who(x, 1, 1, 8);
        x.years(2);
        // d would take 9 of the brow, 9 of the cheek, 2 of the chin
        x.tell(0, 9, true);
        who(x, 2, 1, 8);
        x.years(1);
        who(x, 2, 1, 8);
    }

    private static void looks() {
        SealFaces x = DUE.told(TEXT);
        // by 1: brow 4, cheek 4, chin 2 and 2
        DUE.is("by 1", x.look(0, 0, 1), 2);
        // by 4: brow 2 and 2 (5, 7 and 1, 3), cheek 4, chin 4
        DUE.is("by 4", x.look(0, 0, 4), 0);
        // by 8: brow 4, cheek 1 and 3, chin 4
        DUE.is("by 8", x.look(0, 0, 8), 1);
        DUE.is("by 0, alike: the first", x.look(0, 0, 0), 0);
        DUE.is("by 2: brow 3 and 1, chin 2 and 2", x.look(0, 0, 2), 2);
        x.tell(2, 1, false);
        // a and b are left: brow 1 and 3
        DUE.is("by 2", x.look(1, 0, 2), 0);
        DUE.is("by 9", x.look(1, 0, 9), 0);
        x.tell(2, 1, true);
        DUE.is("none is left", x.look(2, 0, 2), -2);
        DUE.is("by 1, known by none", x.look(0, 0, 1), 2);
        DUE.is("k told too few", x.look(3, 0, 2), -1);
        DUE.is("k below 0", x.look(-1, 0, 2), -1);
        DUE.is("no such v", x.look(0, 0, 10), -1);
        DUE.is("no such v", x.look(0, 0, -1), -1);
        DUE.is("none left, no such v", x.look(2, 0, 10), -1);
        DUE.is("no such deed", x.look(0, 2, 1), -1);
        DUE.is("no such deed", x.look(0, -1, 1), -1);
        x.forge(0);
        DUE.is("not open", x.look(0, 0, 1), -1);
        x = DUE.told("deed u 1 1 1 1;");
        DUE.is("no clerks", x.look(0, 0, 1), -2);
    }
}
