/** Promises 1 to 5: the tape, what is a text, its faults and their places. */
public final class TextTest {
    private static final Due DUE = new Due();
    private static final String CLERK = "clerk a 1 1 1 1;";
    private static final String DEED = "deed b 1 1 1 1;";

    public static void main(String[] args) {
        newObject();
        tape();
        goodTexts();
        syntax();
        syntaxOfLaws();
        roomOfSorts();
        roomOfTokens();
        twice();
        names();
        wrongNumbers();
        firstFault();
        faultChangesNothing();
        textChangesAll();
        DUE.end();
    }

    private static void newObject() {
        SealFaces x = new SealFaces();
        for (int what = 0; what < 16; what++) {
            DUE.is("new count(" + what + ")", x.count(what), 0);
        }
        DUE.is("new place()", x.place(), -1);
        DUE.is("NONE", SealFaces.NONE, -1);
        DUE.is("new years(0)", x.years(0), 0);
        DUE.is("new undo()", x.undo(), false);
        DUE.is("new hold(2)", x.hold(2), true);
        DUE.is("new restore(2)", x.restore(2), true);
    }

    private static void tape() {
        SealFaces x = new SealFaces();
        for (int n = 1; n <= 100; n++) {
            DUE.is("feed " + n, x.feed(0, 0, 0, 0, 0), 20 * n);
        }
        DUE.is("feed 101", x.feed(0, 0, 0, 0, 0), -1);
        DUE.is("full tape", x.count(8), 2000);
        DUE.is("back(1)", x.back(1), 1999);
        DUE.is("feed of one too much", x.feed(0, 0, 0, 0, 0), -1);
        DUE.is("back(0)", x.back(0), 1999);
        DUE.is("back(-1)", x.back(-1), -1);
        DUE.is("back(2000)", x.back(2000), -1);
        DUE.is("tape stays", x.count(8), 1999);
        DUE.is("back(19)", x.back(19), 1980);
        DUE.is("feed to the brim", x.feed(-1, -1, -1, -1, -1), 2000);
        DUE.is("back(MIN)", x.back(Integer.MIN_VALUE), -1);
        DUE.is("back(MAX)", x.back(Integer.MAX_VALUE), -1);
        DUE.is("back of all", x.back(2000), 0);
        DUE.is("back(1) of none", x.back(1), -1);
        // "clerk a 1 2 3 4;    ", the highest byte of the first int ahead
        DUE.is("feed", x.feed(0x636c6572, 0x6b206120, 0x31203220, 0x3320343b, 0x20202020), 20);
        DUE.is("read()", x.read(), 0);
        DUE.is("clerk(0, 6)", x.clerk(0, 6), 1);
        DUE.is("clerk(0, 5)", x.clerk(0, 5), 4);
        DUE.is("tape behind read", x.count(8), 0);
        DUE.is("read() of nothing", x.read(), 0);
        DUE.is("no clerks then", x.count(0), 0);
    }

    private static void goodTexts() {
        SealFaces x = DUE.told("clerk a1 2 3 4;\tdeed\nabcdefgh\r0099 0 09 009;");
        DUE.is("clerk(0, 6)", x.clerk(0, 6), 1);
        DUE.is("deed(0, 6)", x.deed(0, 6), 99);
        DUE.is("deed(0, 2)", x.deed(0, 2), 9);
        DUE.told("   \t\n\r  ");
        DUE.told("slips 100;slips 0;seed 9999;seed 0000;");
        DUE.told("takes=need;takes = 1+2-3*4/5 ; grows=((((((1))))))*((((((level))))));");
        DUE.told("binds = if age<1 then 2 else if 1<age then 3 else if 1<2 then 3 else if 4<5 then 6 else 7;");
        DUE.told("fades = need+level+age+worth+feature+year+sealed+which+print;");
        DUE.told("clerk a 99 9 9 9;clerk b 0 0 0 0;clerk c 1 1 1 1;clerk d 1 1 1 1;clerk e 1 1 1 1;");
        x = DUE.told("deed a 1 1 1 1;deed b 1 1 1 1;treaty b a;treaty a b;treaty b a;treaty a b;treaty b a;treaty a b;");
        DUE.is("count(2)", x.count(2), 6);
        DUE.is("treaty(0, 0)", x.treaty(0, 0), 1);
        DUE.is("treaty(5, 0)", x.treaty(5, 0), 0);
    }

    private static void syntax() {
        DUE.fault("clerk", 1, 5);
        DUE.fault("clerk  ", 1, 7);
        DUE.fault("x", 1, 0);
        DUE.fault("  ;", 1, 2);
        DUE.fault("clerka 1 2 3 4;", 1, 0);
        DUE.fault("clerk deed 1 1 1 1;", 1, 6);
        DUE.fault("clerk print 1 1 1 1;", 1, 6);
        DUE.fault("clerk else 1 1 1 1;", 1, 6);
        DUE.fault("clerk abcdefghi 1 1 1 1;", 1, 6);
        DUE.fault("clerk a 12345 1 1 1;", 1, 8);
        DUE.fault("clerk a 00001 1 1 1;", 1, 8);
        DUE.fault("clerk A 1 1 1 1;", 1, 6);
        DUE.fault("clerk aB 1 1 1 1;", 1, 7);
        DUE.fault("clerk a 1 2 3 4.", 1, 15);
        DUE.fault("clerk a 1 2 3 4 5;", 1, 16);
        DUE.fault("clerk a 1 2 3;", 1, 13);
        DUE.fault("clerk a 1 2 3 4", 1, 15);
        DUE.fault("clerk a -1 2 3 4;", 1, 8);
        DUE.fault("deed 1 1 1 1 1;", 1, 5);
        DUE.fault("treaty a;", 1, 8);
        DUE.fault("treaty a b c;", 1, 11);
        DUE.fault("slips x;", 1, 6);
        DUE.fault("seed = 5;", 1, 5);
        DUE.fault("seed 5;\u000b", 1, 7);
        DUE.fault("seed 5;\u00e9", 1, 7);
        DUE.fault("seed 5;\u0000", 1, 7);
        DUE.fault("need;", 1, 0);
        DUE.fault("if 1 < 2 then 3 else 4;", 1, 0);
    }

    private static void syntaxOfLaws() {
        DUE.fault("takes need;", 1, 6);
        DUE.fault("takes = ;", 1, 8);
        DUE.fault("takes = need +;", 1, 14);
        DUE.fault("takes = -1;", 1, 8);
        DUE.fault("takes = x;", 1, 8);
        DUE.fault("takes = 1 2;", 1, 10);
        DUE.fault("takes = 1 < 2;", 1, 10);
        DUE.fault("takes = (1;", 1, 10);
        DUE.fault("takes = 1);", 1, 9);
        DUE.fault("takes = ();", 1, 9);
        DUE.fault("takes = (if 1<2 then 3 else 4);", 1, 9);
        DUE.fault("takes = if need then 2 else 3;", 1, 16);
        DUE.fault("takes = if need < 1 then 2;", 1, 26);
        DUE.fault("takes = if need < 1 else 2;", 1, 20);
        DUE.fault("takes = if 1 < 2 then 3 else ;", 1, 29);
        DUE.fault("takes = if 1 < 2 < 3 then 3 else 4;", 1, 17);
        DUE.fault("takes = 1 + 2 if;", 1, 14);
        DUE.fault("grows = clerk;", 1, 8);
    }

    private static String clerks(int n) {
        StringBuilder s = new StringBuilder();
        for (int i = 0; i < n; i++) {
            s.append("clerk ").append((char) ('a' + i)).append(" 1 1 1 1;");
        }
        return s.toString();
    }

    private static String deeds(int n) {
        return clerks(n).replace("clerk", "deed");
    }

    private static void roomOfSorts() {
        DUE.told(clerks(5) + deeds(6).replace("deed ", "deed x"));
        DUE.fault(clerks(6), 2, 80);
        DUE.fault(clerks(5) + "clerk", 2, 80);
        DUE.fault(clerks(5) + "clerk ! !", 2, 80);
        DUE.fault(clerks(5) + "! clerk", 1, 80);
        DUE.fault(deeds(7), 2, 90);
        DUE.fault(deeds(2) + "treaty a b;".repeat(7), 2, 96);
        DUE.told("takes=" + "if 1<2 then 3 else ".repeat(4) + "5;grows=" + "if 1<2 then 3 else ".repeat(4) + "5;");
        DUE.fault("takes=" + "if 1<2 then 3 else ".repeat(5) + "5;", 2, 6 + 4 * 19);
        DUE.fault("takes=" + "if 1<2 then 3 else ".repeat(4) + "if ;", 2, 6 + 4 * 19);
        DUE.told("takes=((((((1))))))+((((((1))))));");
        DUE.fault("takes=(((((((1)))))));", 2, 12);
        DUE.fault("takes=(1)+(2)*(3)/((((((((", 2, 24);
        DUE.fault("takes=if 1<((((((1)))))) then (((((((", 2, 36);
    }

    private static void roomOfTokens() {
        String most = "takes=1" + "+1".repeat(198);
        DUE.told(most + ";");
        DUE.told(most + ";  \n ");
        DUE.fault(most + "+1;", 2, 404);
        DUE.fault(most + ";slips 5;", 2, 404);
        DUE.fault(most + ";   clerk", 2, 407);
        DUE.fault(most + ";x", 1, 404);
        DUE.fault(most + ";!", 1, 404);
        DUE.fault(most + ";abcdefghi", 1, 404);
        DUE.fault(most + "+", 1, 404);
        DUE.fault(most + "+ ", 1, 405);
        DUE.fault(most + "+;", 1, 404);
        // a text of many bytes, all of them looked at
        DUE.fault(" ".repeat(1995) + "seed", 1, 1999);
        DUE.told(" ".repeat(1993) + "seed 1;");
        DUE.fault("a".repeat(2000), 1, 0);
        DUE.fault("seed " + "1".repeat(1995), 1, 5);
    }

    private static void twice() {
        DUE.fault(CLERK + CLERK, 3, 22);
        DUE.fault(CLERK + "deed a 1 1 1 1;", 3, 21);
        DUE.fault(DEED + DEED, 3, 20);
        DUE.fault(DEED + "clerk b 1 1 1 1;", 3, 21);
        DUE.fault(DEED + "treaty b b;", 3, 24);
        DUE.fault("clerk abcdefgh 1 1 1 1;clerk abcdefgh 1 1 1 1;", 3, 29);
        DUE.told("clerk abcdefgh 1 1 1 1;clerk abcdefgi 1 1 1 1;clerk bbcdefgh 1 1 1 1;clerk a 1 1 1 1;clerk aa 1 1 1 1;");
    }

    private static void names() {
        DUE.fault("treaty b c;" + DEED, 4, 7);
        DUE.fault(DEED + "treaty b c;deed c 1 1 1 1;", 4, 24);
        DUE.fault(CLERK + DEED + "treaty b a;", 4, 40);
        DUE.fault(CLERK + DEED + "treaty a b;", 4, 38);
        DUE.fault(CLERK + "treaty a a;", 4, 23);
        DUE.fault("treaty b b;", 4, 7);
    }

    private static void wrongNumbers() {
        DUE.fault("clerk a 100 1 1 1;", 5, 8);
        DUE.fault("clerk a 1 10 1 1;", 5, 10);
        DUE.fault("clerk a 1 1 10 1;", 5, 12);
        DUE.fault("clerk a 1 1 1 10;", 5, 14);
        DUE.fault("deed a 100 1 1 1;", 5, 7);
        DUE.fault("deed a 1 10 1 1;", 5, 9);
        DUE.fault("deed a 1 1 1 9999;", 5, 13);
        DUE.fault("slips 101;", 5, 6);
        DUE.fault("slips 101;slips 5;", 5, 6);
        DUE.told("takes = 9999;");
    }

    private static void firstFault() {
        DUE.fault("clerk a 100 1 1 1; x", 1, 19);
        DUE.fault("clerk a 100 1 1 1;clerk a 1 1 1 1;", 5, 8);
        DUE.fault(CLERK + "clerk a 100 1 1 1;", 3, 22);
        DUE.fault("slips 101;treaty a b;", 5, 6);
        DUE.fault("treaty a b;slips 101;", 4, 7);
        DUE.fault(CLERK + CLERK + clerks(4), 2, 80);
    }

    private static void faultChangesNothing() {
        SealFaces x = DUE.told("clerk a 1 5 5 5;" + DEED + "takes = 2;");
        x.seal(0, 0);
        x.years(2);
        x.tell(0, 1, true);
        x.hold(1);
        DUE.is("read with a fault", Due.read(x, "clerk b 1 1 1 1;takes = 3;seed"), 1);
        DUE.is("place()", x.place(), 30);
        DUE.is("read with a late fault", Due.read(x, "clerk b 1 1 1 1;clerk b 1 1 1 1;takes = 3;"), 3);
        DUE.is("place()", x.place(), 22);
        DUE.is("place() again", x.place(), 22);
        DUE.is("count(0)", x.count(0), 1);
        DUE.is("clerk(0, 0)", x.clerk(0, 0), 3);
        DUE.is("takes(0, 0, 0)", x.takes(0, 0, 0), 2);
        DUE.is("count(3)", x.count(3), 2);
        DUE.is("count(9)", x.count(9), 2);
        DUE.is("count(10)", x.count(10), 1);
        DUE.is("count(11)", x.count(11), 1);
        DUE.is("count(8)", x.count(8), 0);
        DUE.is("undo()", x.undo(), true);
        DUE.is("undo()", x.undo(), true);
        DUE.is("clerk(0, 0)", x.clerk(0, 0), 5);
    }

    private static void textChangesAll() {
        SealFaces x = DUE.told("clerk a 1 5 5 5;" + DEED + "takes = 2;grows = 1;binds = 7;fades = 1;slips 100;seed 3;");
        x.seal(0, 0);
        x.years(2);
        x.tell(0, 1, true);
        x.hold(1);
        Due.read(x, "!");
        DUE.is("read", Due.read(x, "clerk c 7 9 8 7;clerk d 1 1 1 1;deed e 50 1 2 3;deed f 1 0 0 0;"), 0);
        DUE.is("place() without a fault", x.place(), -1);
        DUE.is("count(0)", x.count(0), 2);
        DUE.is("count(1)", x.count(1), 2);
        DUE.is("count(3)", x.count(3), 0);
        DUE.is("count(4)", x.count(4), 3);
        DUE.is("count(9)", x.count(9), 0);
        DUE.is("count(10)", x.count(10), 0);
        DUE.is("count(11)", x.count(11), 0);
        DUE.is("restore(1)", x.restore(1), false);
        DUE.is("undo()", x.undo(), false);
        DUE.is("clerk(0, 0)", x.clerk(0, 0), 9);
        DUE.is("takes as not told", x.takes(0, 0, 2), 3);
        DUE.is("seal(0, 0)", x.seal(0, 0), true);
        DUE.is("binds as not told", x.deed(0, 8), 50);
        DUE.is("years(3)", x.years(3), 3);
        DUE.is("grows as not told", x.clerk(0, 0), 8);
        DUE.is("fades as not told", x.deed(0, 5), 3);
        DUE.is("slips as not told", x.year(0, 20), 20);
    }
}
