import java.util.Random;

/** Runs of calls by chance on the class and on the plain model: all answers have to be alike. */
public final class ModelTest {
    private static final Random RANDOM = new Random(20261118);
    private static final String[] VARS = {"need", "level", "age", "worth", "feature", "year", "sealed", "which", "print"};
    private static final String[] PIECES = {"clerk", "deed", "treaty", "takes", "grows", "binds", "fades", "slips", "seed", "if",
        "then", "else", "need", "print", "(", ")", "+", "-", "*", "/", "<", ";", "=", "7", "0012", "12345", "a", "da", "abcdefgh",
        "abcdefghi", "A", ".", ",", "\t", "\n", "\r", " ", "\u00e9", "\u0000"};
    private static int wrong = 0;
    private static int asked = 0;

    private final SealFaces x = new SealFaces();
    private final Model m = new Model();
    private final StringBuilder log = new StringBuilder();
    private int clerks;
    private int deeds;
    private int calls = 0;

    public static void main(String[] args) {
        for (int run = 0; run < 700 && wrong == 0; run++) {
            new ModelTest().run(run);
        }
        for (int run = 0; run < 20000 && wrong == 0; run++) {
            ModelTest t = new ModelTest();
            t.read(t.faulty());
        }
        System.out.println(asked + " answers, " + wrong + " not as due");
        if (wrong != 0) {
            System.exit(1);
        }
    }

    private static int upTo(int n) {
        return RANDOM.nextInt(n + 1);
    }

    /** Mostly 0 .. most, now and then a bit or far outside. */
    private static int about(int most) {
        int r = upTo(29);
        return r == 0 ? -1 : r == 1 ? most + 1 : r == 2 && upTo(9) == 0 ? RANDOM.nextInt() : upTo(Math.max(0, most));
    }

    private void same(String call, long got, long want) {
        asked++;
        calls++;
        log.append(call).append(" = ").append(want).append('\n');
        if (got != want && wrong++ == 0) {
            System.out.println(log + call + " answered " + got + ", due is " + want);
        }
    }

    private void same(String call, boolean got, boolean want) {
        same(call, got ? 1 : 0, want ? 1 : 0);
    }

    /** Counts a call that is not compared: an object is good for 512. */
    private int asked(int answer) {
        calls++;
        return answer;
    }

    private void run(int run) {
        for (int i = 0; i < 20; i++) {
            call();
        }
        boolean large = run % 10 == 0;
        for (int texts = 0; texts < 1 + upTo(2) && calls < 400; texts++) {
            read(text(large));
            int n = large ? 50 : 150;
            for (int i = 0; i < n && calls < 505; i++) {
                call();
            }
        }
    }

    private void read(String text) {
        int padded = (text.length() + 19) / 20 * 20;
        for (int from = 0; from < padded; from += 20) {
            int[] w = new int[5];
            for (int i = 0; i < 20; i++) {
                w[i / 4] = w[i / 4] << 8 | (from + i < text.length() ? text.charAt(from + i) : RANDOM.nextInt(256));
            }
            same("feed", x.feed(w[0], w[1], w[2], w[3], w[4]), m.feed(w));
        }
        int n = asked(x.count(8)) - text.length();
        same("back(" + n + ")", x.back(n), m.back(n));
        same("read of <" + text + ">", x.read(), m.read());
        same("place()", x.place(), m.place());
    }

    private String text(boolean large) {
        boolean small = upTo(9) == 0;
        clerks = large ? 5 : small ? upTo(1) : 2 + upTo(2);
        deeds = large ? 4 + upTo(2) : small ? upTo(1) : 2 + upTo(2);
        StringBuilder s = new StringBuilder();
        for (int c = 0; c < clerks; c++) {
            s.append("clerk c").append((char) ('a' + c)).append(' ').append(upTo(99));
            int least = upTo(5);
            for (int f = 0; f < 3; f++) {
                s.append(' ').append(least + upTo(9 - least));
            }
            s.append(";");
        }
        int need = 1 + upTo(8);
        for (int d = 0; d < deeds; d++) {
            s.append("deed d").append((char) ('a' + d)).append(' ').append(upTo(3) == 0 ? upTo(5) : upTo(99));
            for (int f = 0; f < 3; f++) {
                s.append(' ').append(upTo(need));
            }
            s.append(" ; ");
        }
        for (int t = 0; t < 6 && deeds > 1 && upTo(4) > 0; t++) {
            int one = upTo(deeds - 1);
            int other = (one + 1 + upTo(deeds - 2)) % deeds;
            s.append("treaty d").append((char) ('a' + one)).append(" d").append((char) ('a' + other)).append(";\n");
        }
        for (String law : new String[] {"takes", "grows", "binds", "fades", "takes"}) {
            if (upTo(3) > 0) {
                s.append(law).append(" = ").append(law(law)).append(';');
            }
        }
        if (upTo(2) > 0) {
            s.append("slips ").append(upTo(100)).append(";seed ").append(upTo(9999)).append(";");
        }
        return s.toString();
    }

    private static String law(String which) {
        String[] plain = which.equals("takes") ? new String[] {"need", "(need+sealed)/2", "need-feature", "level/2", "need*which/2", "level-need*which", "(feature+which)*need/3", "if level<need then 0 else need"}
            : which.equals("binds") ? new String[] {"worth/sealed", "worth-10*sealed", "print*3", "worth+print-age/9", "if sealed<2 then worth else print"}
            : new String[] {"1", "year/3", "if 2<feature+which then 0 else 1", "(year-3*(year/3))/2", "if year<9 then 0 else 1"};
        if (upTo(2) > 0) {
            return plain[upTo(plain.length - 1)];
        }
        StringBuilder s = new StringBuilder();
        for (int i = 0; i < 4 && upTo(2) == 0; i++) {
            s.append("if ").append(sum(0)).append('<').append(sum(0)).append(" then ").append(sum(0)).append(" else ");
        }
        return s.append(sum(0)).toString();
    }

    private static String sum(int depth) {
        StringBuilder s = new StringBuilder(unit(depth));
        while (upTo(2) == 0) {
            s.append("+-*/".charAt(upTo(3))).append(unit(depth));
        }
        return s.toString();
    }

    private static String unit(int depth) {
        int r = upTo(4);
        return r == 0 && depth < 6 ? "(" + sum(depth + 1) + ")" : r < 3 ? VARS[upTo(8)] : String.valueOf(upTo(3) == 0 ? upTo(9999) : upTo(9));
    }

    /** A text with bits of it gone, doubled or put in by chance. */
    private String faulty() {
        StringBuilder s = new StringBuilder(text(upTo(3) == 0));
        if (upTo(9) == 0) {
            s.append("takes = 1");
            for (int n = upTo(400); n > 0; n--) {
                s.append(upTo(40) == 0 ? "+ (1)" : "+1");
            }
            s.append(';');
        }
        if (upTo(9) == 0) {
            s.append("fades=").append("(".repeat(5 + upTo(3))).append("1").append(")".repeat(5 + upTo(3))).append(';');
        }
        if (upTo(9) == 0) {
            s.append("grows=").append("if 1<2 then 3 else ".repeat(3 + upTo(3))).append("1;");
        }
        for (int n = upTo(3); n > 0; n--) {
            int at = upTo(s.length());
            int r = upTo(4);
            if (r == 0 && at < s.length()) {
                s.deleteCharAt(at);
            } else if (r == 1) {
                s.insert(at, PIECES[upTo(PIECES.length - 1)]);
            } else if (r == 2) {
                s.setLength(at);
            } else if (r == 3) {
                s.append("clerk " + (char) ('a' + upTo(25)) + " 100 1 1 10;");
            } else {
                s.append("treaty da " + (upTo(1) == 0 ? "da" : "ca") + "; deed dz 5 5 5 5 ; deed " + (upTo(1) == 0 ? "ca" : "e") + " 1 2 3 4;");
            }
        }
        if (s.length() > 2000) {
            s.setLength(2000);
        }
        return s.toString();
    }

    private void call() {
        int c = about(clerks - 1);
        int d = about(deeds - 1);
        int f = about(2);
        int what = about(1);
        int n = about(40);
        int r = upTo(45);
        if (r < 10) {
            int can = r < 4 && upTo(1) == 0 ? asked(x.hands(d)) : 0;
            change(r, can > 0 ? Integer.numberOfTrailingZeros(can) : c, d, upTo(2) == 0 ? n : upTo(3));
        } else if (r < 30) {
            ask(r, c, d, f, what);
        } else {
            askMore(r, c, d, f, n);
        }
    }

    private void change(int r, int c, int d, int n) {
        int slot = about(2);
        switch (r) {
            case 0, 1, 2, 3 -> same("seal(" + c + ", " + d + ")", x.seal(c, d), m.seal(c, d));
            case 4 -> {
                if (upTo(2) == 0) {
                    same("forge(" + d + ")", x.forge(d), m.forge(d));
                }
            }
            case 5 -> same("burn(" + d + ")", x.burn(d), m.burn(d));
            case 6 -> same("years(" + n + ")", x.years(n), m.years(n));
            case 7 -> same("undo()", x.undo(), m.undo());
            case 8 -> same("hold(" + slot + ")", x.hold(slot), m.hold(slot));
            default -> {
                if (upTo(3) == 0) {
                    same("restore(" + slot + ")", x.restore(slot), m.restore(slot));
                } else {
                    same("seal(" + c + ", " + d + ")", x.seal(c, d), m.seal(c, d));
                }
            }
        }
    }

    private void ask(int r, int c, int d, int f, int what) {
        int i = upTo(2) == 0 ? -1 : d;
        boolean dear = clerks * deeds > 12 && upTo(9) > 0;
        int w = about(8);
        switch (r) {
            case 10, 11 -> same("clerk(" + c + ", " + w + ")", x.clerk(c, w), m.clerk(c, w));
            case 12, 13 -> same("deed(" + d + ", " + w + ")", x.deed(d, w), m.deed(d, w));
            case 14 -> {
                int t = about(5);
                w = about(2);
                same("treaty(" + t + ", " + w + ")", x.treaty(t, w), m.treaty(t, w));
            }
            case 15 -> same("takes(" + c + ", " + d + ", " + f + ")", x.takes(c, d, f), m.takes(c, d, f));
            case 16, 17 -> {
                if (!dear) {
                    same("all(" + i + ")", x.all(i), m.all(i));
                }
            }
            case 18 -> same("fewest(" + what + ")", x.fewest(what), m.fewest(what));
            case 19, 20 -> same("match(" + i + ")", x.match(i), m.match(i));
            case 21 -> same("greatest(" + what + ")", x.greatest(what), m.greatest(what));
            case 22 -> same("weakest(" + what + ")", x.weakest(what), m.weakest(what));
            case 23 -> same("hands(" + d + ")", x.hands(d), m.hands(d));
            case 24 -> same("work(" + c + ")", x.work(c), m.work(c));
            case 25 -> same("game(" + what + ")", x.game(what), m.game(what));
            case 26 -> same("breaks(" + what + ")", x.breaks(what), m.breaks(what));
            case 27 -> same("lent(" + c + ", " + f + ")", x.lent(c, f), m.lent(c, f));
            case 28 -> {
                int other = about(deeds - 1);
                same("apart(" + d + ", " + other + ")", x.apart(d, other), m.apart(d, other));
            }
            default -> same("like(" + what + ")", x.like(what), m.like(what));
        }
    }

    private void askMore(int r, int c, int d, int f, int n) {
        int what = about(1);
        int k = upTo(3) == 0 ? about(5) : upTo(asked(x.count(10)));
        int v = upTo(1) == 0 ? about(9) : upTo(3);
        int s = about(20);
        switch (r) {
            case 30 -> same("twins(" + f + ", " + what + ")", x.twins(f, what), m.twins(f, what));
            case 31 -> same("heals(" + c + ")", x.heals(c), m.heals(c));
            case 32 -> same("blank(" + d + ")", x.blank(d), m.blank(d));
            case 33 -> same("barest(" + what + ")", x.barest(what), m.barest(what));
            case 34 -> same("reads(" + d + ")", x.reads(d), m.reads(d));
            case 35 -> same("levelIn(" + c + ", " + f + ", " + n + ")", x.levelIn(c, f, n), m.levelIn(c, f, n));
            case 36 -> same("printIn(" + d + ", " + f + ", " + n + ")", x.printIn(d, f, n), m.printIn(d, f, n));
            case 37 -> same("bindsIn(" + n + ")", x.bindsIn(n), m.bindsIn(n));
            case 38 -> same("year(" + d + ", " + s + ")", x.year(d, s), m.year(d, s));
            case 39 -> {
                boolean so = upTo(1) == 0;
                same("tell(" + f + ", " + v + ", " + so + ")", x.tell(f, v, so), m.tell(f, v, so));
            }
            case 40 -> {
                if (upTo(2) == 0 || asked(x.count(10)) > 3 && upTo(8) > 0) {
                    same("forget()", x.forget(), m.forget());
                }
            }
            case 41 -> same("who(" + k + ", " + d + ", " + what + ")", x.who(k, d, what), m.who(k, d, what));
            case 42 -> same("look(" + k + ", " + d + ", " + v + ")", x.look(k, d, v), m.look(k, d, v));
            default -> {
                int w = about(15);
                same("count(" + w + ")", x.count(w), m.count(w));
            }
        }
    }
}
