import java.util.ArrayDeque;
import java.util.ArrayList;
import java.util.Arrays;
import java.util.Deque;
import java.util.List;
import java.util.Map;
import java.util.HashMap;
import java.util.Set;

/** The document told once more, as slowly and plainly as can be: every choice is gone through. */
final class Model {
    private static final Set<String> VARS = Set.of("need", "level", "age", "worth", "feature", "year", "sealed", "which", "print");
    private static final Set<String> LAWS = Set.of("takes", "grows", "binds", "fades");
    private static final Set<String> OTHERS = Set.of("clerk", "deed", "treaty", "slips", "seed", "if", "then", "else");

    private record Token(String text, int place) {
        boolean isInt() {
            return Character.isDigit(text.charAt(0));
        }

        boolean isName() {
            return text.matches("[a-z]{1,8}") && !VARS.contains(text) && !LAWS.contains(text) && !OTHERS.contains(text);
        }

        boolean isToken() {
            return text.matches("[a-z]{1,8}|[0-9]{1,4}|[;=+*/<()-]");
        }
    }

    private static final class Scene {
        int[][] level = new int[5][3];
        int[][] print = new int[6][3];
        int[] by = new int[6];
        int year = 0;

        Scene copy() {
            Scene s = new Scene();
            for (int i = 0; i < 5; i++) {
                s.level[i] = level[i].clone();
            }
            for (int i = 0; i < 6; i++) {
                s.print[i] = print[i].clone();
            }
            s.by = by.clone();
            s.year = year;
            return s;
        }
    }

    private static final class ByZero extends RuntimeException {
        private static final long serialVersionUID = 1L;
    }

    private record Fact(int feature, int v, boolean so) {
    }

    private final StringBuilder tape = new StringBuilder();
    private int place = -1;
    private List<int[]> clerks = new ArrayList<>();
    private List<int[]> deeds = new ArrayList<>();
    private List<int[]> treaties = new ArrayList<>();
    private Map<String, List<String>> laws = new HashMap<>();
    private int slips = 0;
    private int seed = 0;
    private Scene now = new Scene();
    private final List<Scene> past = new ArrayList<>();
    private final List<Fact> told = new ArrayList<>();
    private final Scene[] slots = new Scene[3];

    // ---- texts

    int feed(int... words) {
        if (tape.length() + 20 > 2000) {
            return -1;
        }
        for (int w : words) {
            for (int shift = 24; shift >= 0; shift -= 8) {
                tape.append((char) (w >>> shift & 255));
            }
        }
        return tape.length();
    }

    int back(int n) {
        if (n < 0 || n > tape.length()) {
            return -1;
        }
        tape.setLength(tape.length() - n);
        return tape.length();
    }

    int place() {
        return place;
    }

    int read() {
        String text = tape.toString();
        tape.setLength(0);
        List<Token> tokens = tokens(text);
        int[] fault = early(tokens, text.length());
        if (fault == null) {
            fault = late(tokens);
        }
        place = fault == null ? -1 : fault[0];
        if (fault != null) {
            return fault[1];
        }
        begin(tokens);
        return 0;
    }

    private static List<Token> tokens(String text) {
        List<Token> out = new ArrayList<>();
        int i = 0;
        while (i < text.length()) {
            char c = text.charAt(i);
            if (c == 9 || c == 10 || c == 13 || c == 32) {
                i++;
                continue;
            }
            int end = i + 1;
            while (end < text.length() && sort(c) > 0 && sort(text.charAt(end)) == sort(c)) {
                end++;
            }
            out.add(new Token(text.substring(i, end), i));
            i = end;
        }
        return out;
    }

    private static int sort(char c) {
        return c >= 'a' && c <= 'z' ? 1 : c >= '0' && c <= '9' ? 2 : 0;
    }

    /** By a stack of what has to come. */
    private static int[] early(List<Token> tokens, int length) {
        Deque<String> stack = new ArrayDeque<>();
        stack.push("TEXT");
        int depth = 0;
        int ifs = 0;
        Map<String, Integer> sorts = new HashMap<>();
        for (int i = 0; i < tokens.size(); i++) {
            Token t = tokens.get(i);
            if (!t.isToken() || !takes(stack, t)) {
                return new int[] {t.place, 1};
            }
            boolean room = i >= 400;
            if (t.text.equals("clerk") || t.text.equals("deed") || t.text.equals("treaty")) {
                int n = sorts.merge(t.text, 1, Integer::sum);
                room |= n > (t.text.equals("clerk") ? 5 : 6);
            }
            if (LAWS.contains(t.text)) {
                ifs = 0;
            }
            if (t.text.equals("if")) {
                room |= ++ifs > 4;
            }
            if (t.text.equals("(")) {
                room |= ++depth > 6;
            }
            if (t.text.equals(")")) {
                depth--;
            }
            if (room) {
                return new int[] {t.place, 2};
            }
        }
        return stack.peek().equals("TEXT") ? null : new int[] {length, 1};
    }

    private static void expand(Deque<String> stack, String... symbols) {
        for (int i = symbols.length - 1; i >= 0; i--) {
            stack.push(symbols[i]);
        }
    }

    private static boolean takes(Deque<String> stack, Token t) {
        for (int steps = 0; steps < 1000; steps++) {
            String top = stack.pop();
            switch (top) {
                case "TEXT" -> expand(stack, "TELL", "TEXT");
                case "TELL" -> {
                    if (t.text.equals("clerk") || t.text.equals("deed")) {
                        expand(stack, t.text, "NAME", "INT", "INT", "INT", "INT", ";");
                    } else if (t.text.equals("treaty")) {
                        expand(stack, "treaty", "NAME", "NAME", ";");
                    } else if (t.text.equals("slips") || t.text.equals("seed")) {
                        expand(stack, t.text, "INT", ";");
                    } else if (LAWS.contains(t.text)) {
                        expand(stack, t.text, "=", "LAW", ";");
                    } else {
                        return false;
                    }
                }
                case "LAW" -> {
                    if (t.text.equals("if")) {
                        expand(stack, "if", "E", "<", "E", "then", "E", "else", "LAW");
                    } else {
                        expand(stack, "E");
                    }
                }
                case "E" -> expand(stack, "PART", "MOREPARTS");
                case "PART" -> expand(stack, "UNIT", "MOREUNITS");
                case "MOREPARTS" -> {
                    if (t.text.equals("+") || t.text.equals("-")) {
                        expand(stack, t.text, "PART", "MOREPARTS");
                    }
                }
                case "MOREUNITS" -> {
                    if (t.text.equals("*") || t.text.equals("/")) {
                        expand(stack, t.text, "UNIT", "MOREUNITS");
                    }
                }
                case "UNIT" -> {
                    if (t.text.equals("(")) {
                        expand(stack, "(", "E", ")");
                    } else if (t.isInt() || VARS.contains(t.text)) {
                        expand(stack, t.text);
                    } else {
                        return false;
                    }
                }
                case "NAME" -> {
                    return t.isName();
                }
                case "INT" -> {
                    return t.isInt();
                }
                default -> {
                    return top.equals(t.text);
                }
            }
        }
        return false;
    }

    private static List<List<Token>> tells(List<Token> tokens) {
        List<List<Token>> out = new ArrayList<>();
        List<Token> tell = new ArrayList<>();
        for (Token t : tokens) {
            if (t.text.equals(";")) {
                out.add(tell);
                tell = new ArrayList<>();
            } else {
                tell.add(t);
            }
        }
        return out;
    }

    private static int[] late(List<Token> tokens) {
        List<String> names = new ArrayList<>();
        List<String> deedNames = new ArrayList<>();
        for (List<Token> tell : tells(tokens)) {
            String sort = tell.get(0).text;
            if (sort.equals("clerk") || sort.equals("deed")) {
                Token name = tell.get(1);
                if (names.contains(name.text)) {
                    return new int[] {name.place, 3};
                }
                names.add(name.text);
                if (sort.equals("deed")) {
                    deedNames.add(name.text);
                }
                for (int i = 2; i < 6; i++) {
                    if (Integer.parseInt(tell.get(i).text) > (i == 2 ? 99 : 9)) {
                        return new int[] {tell.get(i).place, 5};
                    }
                }
            } else if (sort.equals("treaty")) {
                for (int i = 1; i < 3; i++) {
                    if (i == 2 && tell.get(1).text.equals(tell.get(2).text)) {
                        return new int[] {tell.get(2).place, 3};
                    }
                    if (!deedNames.contains(tell.get(i).text)) {
                        return new int[] {tell.get(i).place, 4};
                    }
                }
            } else if (sort.equals("slips") && Integer.parseInt(tell.get(1).text) > 100) {
                return new int[] {tell.get(1).place, 5};
            }
        }
        return null;
    }

    private void begin(List<Token> tokens) {
        clerks = new ArrayList<>();
        deeds = new ArrayList<>();
        treaties = new ArrayList<>();
        laws = new HashMap<>();
        slips = 0;
        seed = 0;
        List<String> names = new ArrayList<>();
        for (List<Token> tell : tells(tokens)) {
            List<String> words = tell.stream().map(Token::text).toList();
            switch (words.get(0)) {
                case "clerk" -> clerks.add(ints(words));
                case "deed" -> {
                    deeds.add(ints(words));
                    names.add(words.get(1));
                }
                case "treaty" -> treaties.add(new int[] {names.indexOf(words.get(1)), names.indexOf(words.get(2))});
                case "slips" -> slips = Integer.parseInt(words.get(1));
                case "seed" -> seed = Integer.parseInt(words.get(1));
                default -> laws.put(words.get(0), words.subList(2, words.size()));
            }
        }
        now = new Scene();
        Arrays.fill(now.by, -2);
        for (int c = 0; c < clerks.size(); c++) {
            for (int f = 0; f < 3; f++) {
                now.level[c][f] = clerks.get(c)[1 + f];
            }
        }
        past.clear();
        told.clear();
        Arrays.fill(slots, null);
    }

    private static int[] ints(List<String> words) {
        int[] out = new int[4];
        for (int i = 0; i < 4; i++) {
            out[i] = Integer.parseInt(words.get(2 + i));
        }
        return out;
    }

    // ---- laws

    private int law(String which, String missing, Map<String, Integer> vars, int most) {
        List<String> words = laws.getOrDefault(which, List.of(missing));
        int v;
        try {
            v = law(words, vars);
        } catch (ByZero e) {
            v = 0;
        }
        return v < 0 ? 0 : v > most ? most : v;
    }

    private static int law(List<String> words, Map<String, Integer> vars) {
        if (!words.get(0).equals("if")) {
            return sum(words, vars);
        }
        int less = words.indexOf("<");
        int then = words.indexOf("then");
        int other = words.indexOf("else");
        int a = sum(words.subList(1, less), vars);
        int b = sum(words.subList(less + 1, then), vars);
        if (a < b) {
            return sum(words.subList(then + 1, other), vars);
        }
        return law(words.subList(other + 1, words.size()), vars);
    }

    /** The last sign outside of all brackets, of the weakest sort, splits it. */
    private static int sum(List<String> words, Map<String, Integer> vars) {
        for (String signs : new String[] {"+-", "*/"}) {
            int depth = 0;
            for (int i = words.size() - 1; i >= 0; i--) {
                String w = words.get(i);
                depth += w.equals(")") ? 1 : w.equals("(") ? -1 : 0;
                if (depth == 0 && signs.contains(w)) {
                    return joined(w, sum(words.subList(0, i), vars), sum(words.subList(i + 1, words.size()), vars));
                }
            }
        }
        String w = words.get(0);
        if (w.equals("(")) {
            return sum(words.subList(1, words.size() - 1), vars);
        }
        return Character.isDigit(w.charAt(0)) ? Integer.parseInt(w) : vars.getOrDefault(w, 0);
    }

    private static int joined(String sign, int a, int b) {
        if (sign.equals("/") && b == 0) {
            throw new ByZero();
        }
        return sign.equals("+") ? a + b : sign.equals("-") ? a - b : sign.equals("*") ? a * b : a / b;
    }

    private static int sealed(Scene s, int c) {
        int n = 0;
        for (int by : s.by) {
            n += by == c ? 1 : 0;
        }
        return n;
    }

    private int takes(Scene s, int c, int d, int f) {
        return law("takes", "need", Map.of("need", deeds.get(d)[1 + f], "level", s.level[c][f], "age", clerks.get(c)[0] + s.year,
                "worth", deeds.get(d)[0], "feature", f, "sealed", sealed(s, c), "which", c, "year", s.year), 9);
    }

    private int grows(Scene s, int c, int f) {
        return law("grows", "0", Map.of("level", s.level[c][f], "age", clerks.get(c)[0] + s.year, "feature", f,
                "sealed", sealed(s, c), "which", c, "year", s.year), 9);
    }

    private int binds(Scene s, int d) {
        int c = s.by[d];
        if (c < 0) {
            return 0;
        }
        return law("binds", "worth", Map.of("worth", deeds.get(d)[0], "age", clerks.get(c)[0] + s.year, "sealed", sealed(s, c),
                "which", c, "print", s.print[d][0] + s.print[d][1] + s.print[d][2], "year", s.year), 99);
    }

    private int fades(Scene s, int d, int f) {
        return law("fades", "0", Map.of("need", deeds.get(d)[1 + f], "worth", deeds.get(d)[0], "feature", f, "which", d,
                "print", s.print[d][f], "year", s.year), 9);
    }

    private static int lot(int n, int seed, int which) {
        int h = seed;
        for (int it : new int[] {189, which}) {
            h = (h ^ it) * 1103515245 + 12345;
            h = h ^ h >>> 15;
        }
        return (h >>> 1) % n;
    }

    // ---- what goes on

    private Scene sealed(Scene s, int c, int d) {
        if (s.by[d] != -2) {
            return null;
        }
        Scene t = s.copy();
        boolean bare = true;
        for (int f = 0; f < 3; f++) {
            int takes = takes(s, c, d, f);
            if (takes > s.level[c][f]) {
                return null;
            }
            t.level[c][f] -= takes;
            t.print[d][f] = takes;
            bare &= t.level[c][f] == 0;
        }
        t.by[d] = c;
        return bare ? null : t;
    }

    private Scene later(Scene s, int n) {
        Scene from = s;
        for (int i = 0; i < n; i++) {
            Scene t = from.copy();
            for (int c = 0; c < clerks.size(); c++) {
                for (int f = 0; f < 3; f++) {
                    t.level[c][f] = Math.min(clerks.get(c)[1 + f], from.level[c][f] + grows(from, c, f));
                }
            }
            for (int d = 0; d < deeds.size(); d++) {
                for (int f = 0; f < 3; f++) {
                    t.print[d][f] = Math.max(0, from.print[d][f] - fades(from, d, f));
                }
            }
            t.year++;
            from = t;
        }
        return from;
    }

    private boolean clerkOk(int c) {
        return c >= 0 && c < clerks.size();
    }

    private boolean deedOk(int d) {
        return d >= 0 && d < deeds.size();
    }

    private static boolean in(int v, int least, int most) {
        return v >= least && v <= most;
    }

    private void go(Scene s) {
        past.add(now);
        if (past.size() > 40) {
            past.remove(0);
        }
        now = s;
    }

    int clerk(int c, int what) {
        if (!clerkOk(c) || !in(what, 0, 8)) {
            return -1;
        }
        int bits = 0;
        for (int d = 0; d < deeds.size(); d++) {
            bits |= now.by[d] == c ? 1 << d : 0;
        }
        return what < 3 ? now.level[c][what] : what < 6 ? clerks.get(c)[what - 2]
                : what == 6 ? clerks.get(c)[0] + now.year : what == 7 ? sealed(now, c) : bits;
    }

    int deed(int d, int what) {
        if (!deedOk(d) || !in(what, 0, 8)) {
            return -1;
        }
        return what < 3 ? deeds.get(d)[1 + what] : what < 6 ? now.print[d][what - 3]
                : what == 6 ? deeds.get(d)[0] : what == 7 ? now.by[d] : binds(now, d);
    }

    private boolean holds(int t) {
        int a = now.by[treaties.get(t)[0]];
        int b = now.by[treaties.get(t)[1]];
        return a >= 0 && b >= 0 && a != b;
    }

    int treaty(int t, int what) {
        if (!in(t, 0, treaties.size() - 1) || !in(what, 0, 2)) {
            return -1;
        }
        return what < 2 ? treaties.get(t)[what] : holds(t) ? 1 : 0;
    }

    int takes(int c, int d, int f) {
        return clerkOk(c) && deedOk(d) && in(f, 0, 2) ? takes(now, c, d, f) : -1;
    }

    boolean seal(int c, int d) {
        Scene s = clerkOk(c) && deedOk(d) ? sealed(now, c, d) : null;
        if (s != null) {
            go(s);
        }
        return s != null;
    }

    boolean forge(int d) {
        if (!deedOk(d) || now.by[d] != -2) {
            return false;
        }
        Scene s = now.copy();
        s.by[d] = -3;
        for (int f = 0; f < 3; f++) {
            s.print[d][f] = deeds.get(d)[1 + f];
        }
        go(s);
        return true;
    }

    boolean burn(int d) {
        if (!deedOk(d) || now.by[d] == -2) {
            return false;
        }
        Scene s = now.copy();
        s.by[d] = -2;
        s.print[d] = new int[3];
        go(s);
        return true;
    }

    int years(int n) {
        if (!in(n, 0, 40)) {
            return -1;
        }
        if (n > 0) {
            go(later(now, n));
        }
        return now.year;
    }

    boolean undo() {
        if (past.isEmpty()) {
            return false;
        }
        now = past.remove(past.size() - 1);
        return true;
    }

    // ---- what would be

    private int bestBound;
    private int[] bestWho;

    private void all(Scene s, int d, int[] who) {
        if (d == deeds.size()) {
            int sum = 0;
            for (int i = 0; i < d; i++) {
                sum += now.by[i] == -2 ? binds(s, i) : 0;
            }
            if (sum > bestBound) {
                bestBound = sum;
                bestWho = who.clone();
            }
            return;
        }
        who[d] = -2;
        all(s, d + 1, who);
        for (int c = 0; c < clerks.size(); c++) {
            Scene t = sealed(s, c, d);
            if (t != null) {
                who[d] = c;
                all(t, d + 1, who);
            }
        }
    }

    int all(int i) {
        if (i != -1 && !deedOk(i)) {
            return -1;
        }
        bestBound = -1;
        all(now, 0, new int[deeds.size()]);
        return i == -1 ? bestBound : bestWho[i];
    }

    private boolean sealsAll(Scene s, int d, int bits) {
        if (d == deeds.size()) {
            return true;
        }
        if (s.by[d] != -2) {
            return sealsAll(s, d + 1, bits);
        }
        for (int c = 0; c < clerks.size(); c++) {
            Scene t = (bits >> c & 1) == 1 ? sealed(s, c, d) : null;
            if (t != null && sealsAll(t, d + 1, bits)) {
                return true;
            }
        }
        return false;
    }

    int fewest(int what) {
        if (!in(what, 0, 1)) {
            return -1;
        }
        for (int n = 0; n <= clerks.size(); n++) {
            for (int bits = 0; bits < 1 << clerks.size(); bits++) {
                if (Integer.bitCount(bits) == n && sealsAll(now, 0, bits)) {
                    return what == 0 ? n : bits;
                }
            }
        }
        return -2;
    }

    private void match(int d, int used, int[] who) {
        if (d == deeds.size()) {
            int n = Integer.bitCount(used);
            if (n > bestBound) {
                bestBound = n;
                bestWho = who.clone();
            }
            return;
        }
        for (int c = 0; c < clerks.size(); c++) {
            if ((used >> c & 1) == 0 && sealed(now, c, d) != null) {
                who[d] = c;
                match(d + 1, used | 1 << c, who);
            }
        }
        who[d] = -2;
        match(d + 1, used, who);
    }

    int match(int i) {
        if (i != -1 && !deedOk(i)) {
            return -1;
        }
        bestBound = -1;
        match(0, 0, new int[deeds.size()]);
        return i == -1 ? bestBound : bestWho[i];
    }

    int greatest(int what) {
        if (!in(what, 0, 1)) {
            return -1;
        }
        for (int v = 99; v >= 0; v--) {
            for (int d = 0; d < deeds.size(); d++) {
                if (binds(now, d) == v) {
                    return what == 0 ? d : v;
                }
            }
        }
        return -2;
    }

    int weakest(int what) {
        if (!in(what, 0, 1)) {
            return -1;
        }
        for (int v = 0; v < 100; v++) {
            for (int t = 0; t < treaties.size(); t++) {
                if (holds(t) && Math.min(binds(now, treaties.get(t)[0]), binds(now, treaties.get(t)[1])) == v) {
                    return what == 0 ? t : v;
                }
            }
        }
        return -2;
    }

    int hands(int d) {
        if (!deedOk(d)) {
            return -1;
        }
        int bits = 0;
        for (int c = 0; c < clerks.size(); c++) {
            bits |= sealed(now, c, d) != null ? 1 << c : 0;
        }
        return bits;
    }

    int work(int c) {
        if (!clerkOk(c)) {
            return -1;
        }
        int bits = 0;
        for (int d = 0; d < deeds.size(); d++) {
            bits |= sealed(now, c, d) != null ? 1 << d : 0;
        }
        return bits;
    }

    /** How much more the first has at the end, if turn is 0 they go on, else the other. */
    private int game(int left, int turn) {
        int best = left == 0 ? 0 : turn == 0 ? -10000 : 10000;
        for (int d = 0; d < 6; d++) {
            if ((left >> d & 1) == 1) {
                int v = (turn == 0 ? binds(now, d) : -binds(now, d)) + game(left & ~(1 << d), 1 - turn);
                best = turn == 0 ? Math.max(best, v) : Math.min(best, v);
            }
        }
        return best;
    }

    int game(int what) {
        if (!in(what, 0, 1)) {
            return -100000;
        }
        int left = (1 << deeds.size()) - 1 & ~count(4);
        int best = game(left, 0);
        if (what == 0) {
            return best;
        }
        for (int d = 0; d < 6; d++) {
            if ((left >> d & 1) == 1 && binds(now, d) + game(left & ~(1 << d), 1) == best) {
                return d;
            }
        }
        return -2;
    }

    private boolean broken(int bits) {
        for (int t = 0; t < treaties.size(); t++) {
            if (holds(t) && (bits >> now.by[treaties.get(t)[0]] & 1) == 0 && (bits >> now.by[treaties.get(t)[1]] & 1) == 0) {
                return false;
            }
        }
        return true;
    }

    int breaks(int what) {
        if (!in(what, 0, 1)) {
            return -1;
        }
        for (int n = 0; n <= 5; n++) {
            for (int bits = 0; bits < 32; bits++) {
                if (Integer.bitCount(bits) == n && broken(bits)) {
                    return what == 0 ? n : bits;
                }
            }
        }
        return -7;
    }

    int lent(int c, int f) {
        if (!clerkOk(c) || !in(f, 0, 2)) {
            return -1;
        }
        int sum = 0;
        for (int d = 0; d < deeds.size(); d++) {
            sum += now.by[d] == c ? now.print[d][f] : 0;
        }
        return sum;
    }

    int apart(int d, int e) {
        if (!deedOk(d) || !deedOk(e)) {
            return -1;
        }
        int sum = 0;
        for (int f = 0; f < 3; f++) {
            sum += Math.abs(now.print[d][f] - now.print[e][f]);
        }
        return sum;
    }

    int like(int what) {
        if (!in(what, 0, 1)) {
            return -1;
        }
        for (int v = 0; v < 28; v++) {
            for (int pair = 0; pair < 60; pair++) {
                int d = pair / 10;
                int e = pair % 10;
                if (d < e && deedOk(d) && deedOk(e) && now.by[d] != -2 && now.by[e] != -2 && apart(d, e) == v) {
                    return what == 0 ? pair : v;
                }
            }
        }
        return -2;
    }

    int twins(int f, int what) {
        if (!in(f, 0, 2) || !in(what, 0, 1)) {
            return -1;
        }
        for (int v = 0; v < 10; v++) {
            for (int pair = 0; pair < 60; pair++) {
                int c = pair / 10;
                int e = pair % 10;
                if (c < e && clerkOk(c) && clerkOk(e) && Math.abs(now.level[c][f] - now.level[e][f]) == v) {
                    return what == 0 ? pair : v;
                }
            }
        }
        return -2;
    }

    int heals(int c) {
        if (!clerkOk(c)) {
            return -1;
        }
        Scene s = now;
        for (int n = 0; n <= 100; n++) {
            int[] first = clerks.get(c);
            if (s.level[c][0] == first[1] && s.level[c][1] == first[2] && s.level[c][2] == first[3]) {
                return n;
            }
            s = later(s, 1);
        }
        return -2;
    }

    int blank(int d) {
        if (!deedOk(d)) {
            return -1;
        }
        Scene s = now;
        for (int n = 0; n <= 100; n++) {
            if (s.print[d][0] + s.print[d][1] + s.print[d][2] == 0) {
                return n;
            }
            s = later(s, 1);
        }
        return -2;
    }

    int barest(int what) {
        if (!in(what, 0, 1)) {
            return -1;
        }
        for (int v = 0; v < 28; v++) {
            for (int c = 0; c < clerks.size(); c++) {
                if (now.level[c][0] + now.level[c][1] + now.level[c][2] == v) {
                    return what == 0 ? c : v;
                }
            }
        }
        return -2;
    }

    private int reads(int d, int seed) {
        int c = now.by[d];
        return lot(100, seed, 8 * now.year + d) < slips ? (c + 1) % clerks.size() : c;
    }

    int reads(int d) {
        return !deedOk(d) ? -1 : now.by[d] < 0 ? -2 : reads(d, seed);
    }

    int levelIn(int c, int f, int n) {
        return clerkOk(c) && in(f, 0, 2) && in(n, 0, 40) ? later(now, n).level[c][f] : -1;
    }

    int printIn(int d, int f, int n) {
        return deedOk(d) && in(f, 0, 2) && in(n, 0, 40) ? later(now, n).print[d][f] : -1;
    }

    private int bindsAll(Scene s) {
        int sum = 0;
        for (int d = 0; d < deeds.size(); d++) {
            sum += binds(s, d);
        }
        return sum;
    }

    int bindsIn(int n) {
        return in(n, 0, 40) ? bindsAll(later(now, n)) : -1;
    }

    int year(int d, int s) {
        if (!deedOk(d) || !in(s, 1, 20)) {
            return -1;
        }
        int right = 0;
        for (int i = seed; i < seed + s; i++) {
            right += now.by[d] >= 0 && reads(d, i) == now.by[d] ? 1 : 0;
        }
        return right;
    }

    int tell(int f, int v, boolean so) {
        if (told.size() == 20 || !in(f, 0, 2) || !in(v, 0, 9)) {
            return -1;
        }
        told.add(new Fact(f, v, so));
        return told.size() - 1;
    }

    int forget() {
        int n = told.size();
        told.clear();
        return n;
    }

    private int who(int d, List<Fact> known) {
        int bits = 0;
        for (int c = 0; c < clerks.size(); c++) {
            Scene s = sealed(now, c, d);
            boolean fits = s != null;
            for (Fact k : known) {
                fits = fits && s.print[d][k.feature] >= k.v == k.so;
            }
            bits |= fits ? 1 << c : 0;
        }
        return bits;
    }

    int who(int k, int d, int what) {
        if (!in(k, 0, told.size()) || !deedOk(d) || now.by[d] != -2 || !in(what, 0, 1)) {
            return -1;
        }
        int bits = who(d, told.subList(0, k));
        return what == 0 ? Integer.bitCount(bits) : bits;
    }

    int look(int k, int d, int v) {
        if (!in(k, 0, told.size()) || !deedOk(d) || now.by[d] != -2 || !in(v, 0, 9)) {
            return -1;
        }
        if (who(k, d, 0) == 0) {
            return -2;
        }
        int best = -1;
        int least = 9;
        for (int f = 0; f < 3; f++) {
            int worst = 0;
            for (boolean so : new boolean[] {true, false}) {
                List<Fact> known = new ArrayList<>(told.subList(0, k));
                known.add(new Fact(f, v, so));
                worst = Math.max(worst, Integer.bitCount(who(d, known)));
            }
            if (worst < least) {
                least = worst;
                best = f;
            }
        }
        return best;
    }

    boolean hold(int slot) {
        if (!in(slot, 0, 2)) {
            return false;
        }
        slots[slot] = now.copy();
        return true;
    }

    boolean restore(int slot) {
        if (!in(slot, 0, 2) || slots[slot] == null) {
            return false;
        }
        now = slots[slot].copy();
        past.clear();
        return true;
    }

    int count(int what) {
        int n = 0;
        switch (what) {
            case 0:
                return clerks.size();
            case 1:
                return deeds.size();
            case 2:
                return treaties.size();
            case 3:
                return now.year;
            case 4:
            case 5:
                for (int d = 0; d < deeds.size(); d++) {
                    n |= now.by[d] == (what == 4 ? -2 : -3) ? 1 << d : 0;
                }
                return n;
            case 6:
                return bindsAll(now);
            case 7:
                for (int t = 0; t < treaties.size(); t++) {
                    n += holds(t) ? 1 : 0;
                }
                return n;
            case 8:
                return tape.length();
            case 9:
                return past.size();
            case 10:
                return told.size();
            case 11:
                for (Scene s : slots) {
                    n += s == null ? 0 : 1;
                }
                return n;
            case 12:
                for (int c = 0; c < clerks.size(); c++) {
                    n += Arrays.stream(now.level[c]).sum();
                }
                return n;
            case 13:
                for (int d = 0; d < deeds.size(); d++) {
                    n += Arrays.stream(now.print[d]).sum();
                }
                return n;
            case 14:
                for (int d = 0; d < deeds.size(); d++) {
                    n |= now.by[d] == -2 && hands(d) == 0 ? 1 << d : 0;
                }
                return n;
            case 15:
                for (int c = 0; c < clerks.size(); c++) {
                    n |= work(c) == 0 ? 1 << c : 0;
                }
                return n;
            default:
                return -1;
        }
    }
}
