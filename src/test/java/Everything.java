/** All that can be asked of an object, so that two of them can be told to be alike. */
final class Everything {
    private static final int[] SCENE = {3, 4, 5, 6, 7, 12, 13};

    private Everything() {
    }

    /** What can be asked and changes nothing. */
    static String of(SealFaces x) {
        StringBuilder s = new StringBuilder();
        for (int what = 0; what < 16; what++) {
            s.append(x.count(what)).append(' ');
        }
        s.append("place ").append(x.place());
        for (int c = 0; c < x.count(0); c++) {
            s.append(" clerk");
            for (int what = 0; what < 9; what++) {
                s.append(' ').append(x.clerk(c, what));
            }
        }
        for (int d = 0; d < x.count(1); d++) {
            s.append(" deed");
            for (int what = 0; what < 9; what++) {
                s.append(' ').append(x.deed(d, what));
            }
            s.append(" told ").append(x.who(x.count(10), d, 1));
        }
        for (int t = 0; t < x.count(2); t++) {
            s.append(" treaty ").append(x.treaty(t, 0)).append(x.treaty(t, 1));
        }
        return s.toString();
    }

    /** What would be, of each CLERK and DEED that is there and of the one behind the last. */
    static String wouldBe(SealFaces x) {
        StringBuilder s = new StringBuilder();
        int clerks = x.count(0);
        int deeds = x.count(1);
        for (int i = -1; i <= deeds; i++) {
            row(s, x.all(i), x.match(i), x.hands(i), x.blank(i), x.reads(i), x.apart(0, i), x.printIn(i, 0, 1), x.year(i, 9), x.look(0, i, 1));
        }
        for (int i = -1; i <= clerks; i++) {
            row(s, x.work(i), x.lent(i, 0), x.heals(i), x.levelIn(i, 1, 1));
        }
        for (int what = 0; what < 2; what++) {
            row(s, x.fewest(what), x.greatest(what), x.weakest(what), x.game(what), x.breaks(what), x.like(what), x.twins(2, what), x.barest(what));
        }
        row(s, x.bindsIn(0), x.bindsIn(1), x.bindsIn(40));
        return s.toString();
    }

    private static void row(StringBuilder s, int... answers) {
        for (int answer : answers) {
            s.append(answer).append(' ');
        }
        s.append(", ");
    }

    /** Goes back through all that can be undone, and on from each slot. */
    static String kept(SealFaces x) {
        StringBuilder s = new StringBuilder();
        while (x.undo()) {
            s.append("undone ");
            scene(x, s);
        }
        for (int slot = 0; slot < 3; slot++) {
            s.append("slot ").append(x.restore(slot)).append(' ');
            scene(x, s);
        }
        return s.toString();
    }

    private static void scene(SealFaces x, StringBuilder s) {
        for (int what : SCENE) {
            s.append(x.count(what)).append(' ');
        }
    }
}
