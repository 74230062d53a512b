import java.util.Arrays;

/** A chancery whose clerks seal deeds with their faces; ../shared/DOC.md has its promises. */
public final class SealFaces {
    public static final int NONE = -1;

    private static final int OPEN = -2;
    private static final int FORGED = -3;
    private static final int NOT = -2;
    private static final int NO_GAME = -100000;

    private static final int MOST_CLERKS = 5;
    private static final int MOST_DEEDS = 6;
    private static final int MOST_TREATIES = 6;
    private static final int FEATURES = 3;
    private static final int MOST_BYTES = 2000;
    private static final int BYTES_FED = 20;
    private static final int MOST_TOKENS = 400;
    private static final int MOST_LETTERS = 8;
    private static final int MOST_DIGITS = 4;
    private static final int MOST_IFS = 4;
    private static final int MOST_DEPTH = 6;
    private static final int MOST_AGE = 99;
    private static final int MOST_WORTH = 99;
    private static final int MOST_SLIPS = 100;
    private static final int MOST_SEED = 9999;
    private static final int MOST_LEVEL = 9;
    private static final int MOST_BINDS = 99;
    private static final int MOST_UNDONE = 40;
    private static final int MOST_SLOTS = 3;
    private static final int MOST_TOLD = 20;
    private static final int MOST_YEARS = 40;
    private static final int LONGEST_WAIT = 100;
    private static final int MOST_SEEDS = 20;

    private static final int SYNTAX = 1;
    private static final int ROOM = 2;
    private static final int TWICE = 3;
    private static final int NO_NAME = 4;
    private static final int WRONG = 5;

    // Kinds of tokens; a sign's kind is its byte, so these keep clear of the signs.
    private static final int END = 0;
    private static final int BAD = 1;
    private static final int NAME = 2;
    private static final int INT = 3;
    private static final int FIRST_WORD = 256;
    private static final int CLERK_WORD = 256;
    private static final int DEED_WORD = 257;
    private static final int TREATY_WORD = 258;
    private static final int TAKES_WORD = 259;
    private static final int GROWS_WORD = 260;
    private static final int BINDS_WORD = 261;
    private static final int FADES_WORD = 262;
    private static final int SLIPS_WORD = 263;
    private static final int SEED_WORD = 264;
    private static final int IF_WORD = 265;
    private static final int THEN_WORD = 266;
    private static final int ELSE_WORD = 267;
    private static final int FIRST_VAR = 268;
    private static final int WORD_COUNT = 21;
    // In the order of the kinds above; each one is followed by a blank.
    private static final String WORDS = "clerk deed treaty takes grows binds fades slips seed if then else need level age worth feature year sealed which print ";
    private static final String SIGNS = ";=+-*/<()";

    // The VARs in the order in which WORDS has them.
    private static final int NEED = 0;
    private static final int LEVEL = 1;
    private static final int AGE = 2;
    private static final int WORTH = 3;
    private static final int FEATURE = 4;
    private static final int YEAR = 5;
    private static final int SEALED = 6;
    private static final int WHICH = 7;
    private static final int PRINT = 8;
    private static final int VARS = 9;

    // All that goes on is one row, so that it is held and undone by one copy.
    private static final int PRINTS_AT = MOST_CLERKS * FEATURES;
    private static final int SEALERS_AT = PRINTS_AT + MOST_DEEDS * FEATURES;
    private static final int YEAR_AT = SEALERS_AT + MOST_DEEDS;
    private static final int SCENE_SIZE = YEAR_AT + 1;

    // Less than all that can be bound or gained, and far enough from where ints wrap to be added to.
    private static final int NEVER = -1000000000;
    private static final int DEED_SETS = 64;
    private static final int CLERK_SETS = 32;

    private final Tape tape = new Tape();
    private final Tokens tokens = new Tokens();
    private final Reader reader = new Reader(tokens);
    private final Hall hall = new Hall();
    private final Memory memory = new Memory();
    private final Told told = new Told();
    private final Plan plan = new Plan(hall);
    private final Choices choices = new Choices(hall);
    private Text draft = new Text();
    private int faultPlace = NONE;

    public SealFaces() {
    }

    public int feed(int a, int b, int c, int d, int e) {
        if (!tape.hasRoom(BYTES_FED)) {
            return NONE;
        }
        tape.addFour(a);
        tape.addFour(b);
        tape.addFour(c);
        tape.addFour(d);
        tape.addFour(e);
        return tape.length;
    }

    public int back(int n) {
        return tape.drop(n) ? tape.length : NONE;
    }

    public int read() {
        tokens.scan(tape);
        tape.drop(tape.length);
        int fault = reader.parse(draft);
        faultPlace = fault == 0 ? NONE : reader.faultPlace;
        if (fault == 0) {
            draft = hall.begin(draft);
            memory.clearAll();
            told.drop();
        }
        return fault;
    }

    public int place() {
        return faultPlace;
    }

    public int clerk(int clerk, int what) {
        if (!hall.isClerk(clerk)) {
            return NONE;
        }
        switch (what) {
            case 0:
            case 1:
            case 2:
                return hall.scene.levelOf(clerk, what);
            case 3:
            case 4:
            case 5:
                return hall.text.firstOf(clerk, what - 3);
            case 6:
                return hall.ageIn(clerk, hall.scene.yearNow());
            case 7:
                return hall.sealedBy(clerk);
            case 8:
                return hall.deedsOf(clerk);
            default:
                return NONE;
        }
    }

    public int deed(int deed, int what) {
        if (!hall.isDeed(deed)) {
            return NONE;
        }
        switch (what) {
            case 0:
            case 1:
            case 2:
                return hall.text.needOf(deed, what);
            case 3:
            case 4:
            case 5:
                return hall.scene.printOf(deed, what - 3);
            case 6:
                return hall.text.worthOf(deed);
            case 7:
                return hall.scene.sealerOf(deed);
            case 8:
                return hall.bindsAfter(deed, 0);
            default:
                return NONE;
        }
    }

    public int treaty(int treaty, int what) {
        if (treaty < 0 || treaty >= hall.text.treaties) {
            return NONE;
        }
        switch (what) {
            case 0:
            case 1:
                return hall.text.treatyDeed(treaty, what);
            case 2:
                return hall.isHeld(treaty) ? 1 : 0;
            default:
                return NONE;
        }
    }

    public int takes(int clerk, int deed, int feature) {
        if (!hall.isClerk(clerk) || !hall.isDeed(deed) || !isFeature(feature)) {
            return NONE;
        }
        return hall.takesNow(clerk, deed, feature);
    }

    public boolean seal(int clerk, int deed) {
        if (!hall.isClerk(clerk) || !hall.isDeed(deed) || !hall.canSeal(clerk, deed)) {
            return false;
        }
        memory.remember(hall.scene);
        hall.putSeal(clerk, deed);
        return true;
    }

    public boolean forge(int deed) {
        if (!hall.isOpen(deed)) {
            return false;
        }
        memory.remember(hall.scene);
        hall.putForgery(deed);
        return true;
    }

    public boolean burn(int deed) {
        if (!hall.isDeed(deed) || hall.isOpen(deed)) {
            return false;
        }
        memory.remember(hall.scene);
        hall.putOpen(deed);
        return true;
    }

    public int years(int n) {
        if (n < 0 || n > MOST_YEARS) {
            return NONE;
        }
        if (n > 0) {
            memory.remember(hall.scene);
        }
        for (int i = 0; i < n; i++) {
            hall.passYear();
        }
        return hall.scene.yearNow();
    }

    public boolean undo() {
        return memory.recall(hall.scene);
    }

    public int all(int i) {
        plan.prepare();
        if (i == NONE) {
            return plan.mostBound();
        }
        return hall.isDeed(i) ? plan.sealerFor(i) : NONE;
    }

    public int fewest(int what) {
        if (!isHowManyOrWho(what)) {
            return NONE;
        }
        plan.prepare();
        int clerks = plan.fewestClerks();
        return clerks == NOT ? NOT : countOrBits(clerks, what);
    }

    public int match(int i) {
        choices.fillMatches();
        if (i == NONE) {
            return choices.matched();
        }
        return hall.isDeed(i) ? choices.matchFor(i) : NONE;
    }

    public int greatest(int what) {
        if (!isHowManyOrWho(what)) {
            return NONE;
        }
        int found = NOT;
        int most = NOT;
        for (int deed = 0; deed < hall.text.deeds; deed++) {
            int binds = hall.bindsAfter(deed, 0);
            if (binds > most) {
                found = deed;
                most = binds;
            }
        }
        return what == 0 ? found : most;
    }

    public int weakest(int what) {
        if (!isHowManyOrWho(what)) {
            return NONE;
        }
        int found = NOT;
        int least = NOT;
        for (int treaty = 0; treaty < hall.text.treaties; treaty++) {
            int binds = hall.isHeld(treaty) ? hall.treatyBinds(treaty) : NONE;
            if (binds != NONE && (found == NOT || binds < least)) {
                found = treaty;
                least = binds;
            }
        }
        return what == 0 ? found : least;
    }

    public int hands(int deed) {
        return hall.isDeed(deed) ? hall.clerksFor(deed) : NONE;
    }

    public int work(int clerk) {
        return hall.isClerk(clerk) ? hall.deedsFor(clerk) : NONE;
    }

    public int game(int what) {
        if (!isHowManyOrWho(what)) {
            return NO_GAME;
        }
        choices.fillGains();
        return what == 0 ? choices.princesGain() : choices.princesPick();
    }

    public int breaks(int what) {
        return isHowManyOrWho(what) ? countOrBits(choices.breakers(), what) : NONE;
    }

    public int lent(int clerk, int feature) {
        if (!hall.isClerk(clerk) || !isFeature(feature)) {
            return NONE;
        }
        int sum = 0;
        for (int deed = 0; deed < hall.text.deeds; deed++) {
            if (hall.scene.sealerOf(deed) == clerk) {
                sum += hall.scene.printOf(deed, feature);
            }
        }
        return sum;
    }

    public int apart(int deed, int other) {
        return hall.isDeed(deed) && hall.isDeed(other) ? hall.printsDiffer(deed, other) : NONE;
    }

    public int like(int what) {
        if (!isHowManyOrWho(what)) {
            return NONE;
        }
        int found = NOT;
        int least = NOT;
        for (int deed = 0; deed < hall.text.deeds; deed++) {
            for (int other = deed + 1; other < hall.text.deeds; other++) {
                int differ = hall.printsDiffer(deed, other);
                boolean closed = !hall.isOpen(deed) && !hall.isOpen(other);
                if (closed && (found == NOT || differ < least)) {
                    found = 10 * deed + other;
                    least = differ;
                }
            }
        }
        return what == 0 ? found : least;
    }

    public int twins(int feature, int what) {
        if (!isFeature(feature) || !isHowManyOrWho(what)) {
            return NONE;
        }
        int found = NOT;
        int least = NOT;
        for (int clerk = 0; clerk < hall.text.clerks; clerk++) {
            for (int other = clerk + 1; other < hall.text.clerks; other++) {
                int differ = Math.abs(hall.scene.levelOf(clerk, feature) - hall.scene.levelOf(other, feature));
                if (found == NOT || differ < least) {
                    found = 10 * clerk + other;
                    least = differ;
                }
            }
        }
        return what == 0 ? found : least;
    }

    public int heals(int clerk) {
        if (!hall.isClerk(clerk)) {
            return NONE;
        }
        int longest = 0;
        for (int feature = 0; feature < FEATURES; feature++) {
            longest = laterOf(longest, hall.yearsToHeal(clerk, feature));
        }
        return longest;
    }

    public int blank(int deed) {
        if (!hall.isDeed(deed)) {
            return NONE;
        }
        int longest = 0;
        for (int feature = 0; feature < FEATURES; feature++) {
            longest = laterOf(longest, hall.yearsToFade(deed, feature));
        }
        return longest;
    }

    public int barest(int what) {
        if (!isHowManyOrWho(what)) {
            return NONE;
        }
        int found = NOT;
        int least = NOT;
        for (int clerk = 0; clerk < hall.text.clerks; clerk++) {
            int sum = hall.levelsOf(clerk);
            if (found == NOT || sum < least) {
                found = clerk;
                least = sum;
            }
        }
        return what == 0 ? found : least;
    }

    public int reads(int deed) {
        if (!hall.isDeed(deed)) {
            return NONE;
        }
        return hall.isSealed(deed) ? hall.readBy(deed, hall.text.seed) : NOT;
    }

    public int levelIn(int clerk, int feature, int n) {
        if (!hall.isClerk(clerk) || !isFeature(feature) || n < 0 || n > MOST_YEARS) {
            return NONE;
        }
        return hall.levelAfter(clerk, feature, n);
    }

    public int printIn(int deed, int feature, int n) {
        if (!hall.isDeed(deed) || !isFeature(feature) || n < 0 || n > MOST_YEARS) {
            return NONE;
        }
        return hall.printAfter(deed, feature, n);
    }

    public int bindsIn(int n) {
        return n < 0 || n > MOST_YEARS ? NONE : hall.allBindAfter(n);
    }

    public int year(int deed, int s) {
        if (!hall.isDeed(deed) || s < 1 || s > MOST_SEEDS) {
            return NONE;
        }
        if (!hall.isSealed(deed)) {
            return 0;
        }
        int right = 0;
        for (int i = 0; i < s; i++) {
            if (hall.readBy(deed, hall.text.seed + i) == hall.scene.sealerOf(deed)) {
                right++;
            }
        }
        return right;
    }

    public int tell(int feature, int v, boolean so) {
        return isFeature(feature) && isLevel(v) ? told.add(feature, v, so) : NONE;
    }

    public int forget() {
        return told.drop();
    }

    public int who(int k, int deed, int what) {
        if (!told.isKnown(k) || !hall.isOpen(deed) || !isHowManyOrWho(what)) {
            return NONE;
        }
        return countOrBits(suspects(k, deed), what);
    }

    public int look(int k, int deed, int v) {
        if (!told.isKnown(k) || !hall.isOpen(deed) || !isLevel(v)) {
            return NONE;
        }
        int clerks = suspects(k, deed);
        int found = NOT;
        int fewest = Integer.bitCount(clerks) + 1;
        for (int feature = 0; feature < FEATURES && clerks != 0; feature++) {
            int worst = leftAtWorst(clerks, deed, feature, v);
            if (worst < fewest) {
                found = feature;
                fewest = worst;
            }
        }
        return found;
    }

    public boolean hold(int slot) {
        return memory.fillSlot(slot, hall.scene);
    }

    public boolean restore(int slot) {
        return memory.takeSlot(slot, hall.scene);
    }

    public int count(int what) {
        switch (what) {
            case 0:
                return hall.text.clerks;
            case 1:
                return hall.text.deeds;
            case 2:
                return hall.text.treaties;
            case 3:
                return hall.scene.yearNow();
            case 4:
                return hall.deedsWith(OPEN);
            case 5:
                return hall.deedsWith(FORGED);
            case 6:
                return hall.allBindAfter(0);
            case 7:
                return hall.treatiesHeld();
            case 8:
                return tape.length;
            case 9:
                return memory.size;
            case 10:
                return told.size;
            case 11:
                return memory.slotsFull();
            case 12:
                return hall.allLevels();
            case 13:
                return hall.allPrints();
            case 14:
                return hall.stuckDeeds();
            case 15:
                return hall.idleClerks();
            default:
                return NONE;
        }
    }

    private int suspects(int k, int deed) {
        int bits = 0;
        for (int clerk = 0; clerk < hall.text.clerks; clerk++) {
            if (hall.canSeal(clerk, deed) && told.fits(k, hall.wanted)) {
                bits |= 1 << clerk;
            }
        }
        return bits;
    }

    private int leftAtWorst(int clerks, int deed, int feature, int v) {
        int so = 0;
        int not = 0;
        for (int clerk = 0; clerk < hall.text.clerks; clerk++) {
            if (hasBit(clerks, clerk)) {
                if (hall.takesNow(clerk, deed, feature) >= v) {
                    so++;
                } else {
                    not++;
                }
            }
        }
        return Math.max(so, not);
    }

    private static boolean isFeature(int feature) {
        return feature >= 0 && feature < FEATURES;
    }

    private static boolean isLevel(int v) {
        return v >= 0 && v <= MOST_LEVEL;
    }

    private static boolean isHowManyOrWho(int what) {
        return what == 0 || what == 1;
    }

    private static int countOrBits(int bits, int what) {
        return what == 0 ? Integer.bitCount(bits) : bits;
    }

    private static boolean hasBit(int bits, int i) {
        return (bits >>> i & 1) == 1;
    }

    private static int laterOf(int years, int others) {
        return years == NOT || others == NOT ? NOT : Math.max(years, others);
    }

    private static int heldTo(int v, int most) {
        return Math.max(0, Math.min(most, v));
    }

    private static int at(int[] row, int i) {
        return i >= 0 && i < row.length ? row[i] : 0;
    }

    private static void put(int[] row, int i, int v) {
        if (i >= 0 && i < row.length) {
            row[i] = v;
        }
    }

    private static long longAt(long[] row, int i) {
        return i >= 0 && i < row.length ? row[i] : 0L;
    }

    private static void putLong(long[] row, int i, long v) {
        if (i >= 0 && i < row.length) {
            row[i] = v;
        }
    }

    private static final class Tape {
        private final byte[] bytes = new byte[MOST_BYTES];
        private int length = 0;

        boolean hasRoom(int n) {
            return n <= bytes.length - length;
        }

        void addFour(int word) {
            for (int shift = 24; shift >= 0; shift -= 8) {
                if (length >= 0 && length < bytes.length) {
                    bytes[length] = (byte) (word >>> shift);
                    length++;
                }
            }
        }

        boolean drop(int n) {
            if (n < 0 || n > length) {
                return false;
            }
            length -= n;
            return true;
        }

        /** NONE behind the end, which is no byte, so that runs end there. */
        int byteAt(int i) {
            return i >= 0 && i < length && i < bytes.length ? bytes[i] & 255 : NONE;
        }
    }

    /** The first tokens of a tape, up to the 401st, the end, or what is no token. */
    private static final class Tokens {
        private final int[] kinds = new int[MOST_TOKENS + 1];
        private final int[] places = new int[MOST_TOKENS + 1];
        private final long[] values = new long[MOST_TOKENS + 1];
        private final long[] words = new long[WORD_COUNT];
        private int size = 0;

        Tokens() {
            long code = 0;
            int n = 0;
            for (int i = 0; i < WORDS.length(); i++) {
                char c = WORDS.charAt(i);
                if (c != ' ') {
                    code = withLetter(code, c);
                } else {
                    putLong(words, n, code);
                    n++;
                    code = 0;
                }
            }
        }

        void scan(Tape tape) {
            size = 0;
            int from = 0;
            boolean more = true;
            for (int n = 0; n <= MOST_TOKENS && more; n++) {
                from = scanOne(tape, behindBlanks(tape, from));
                more = kindAt(n) != END && kindAt(n) != BAD;
            }
        }

        int kindAt(int i) {
            return i >= 0 && i < size && i < kinds.length ? kinds[i] : END;
        }

        int placeAt(int i) {
            return i >= 0 && i < places.length ? places[i] : 0;
        }

        long valueAt(int i) {
            return i >= 0 && i < values.length ? values[i] : 0L;
        }

        private int scanOne(Tape tape, int from) {
            int c = tape.byteAt(from);
            if (isLetter(c)) {
                return scanLetters(tape, from);
            }
            if (isDigit(c)) {
                return scanDigits(tape, from);
            }
            if (c == NONE) {
                add(END, from, 0);
            } else {
                add(SIGNS.indexOf((char) c) >= 0 ? c : BAD, from, 0);
            }
            return from + 1;
        }

        private int scanLetters(Tape tape, int from) {
            long code = 0;
            int end = from;
            for (; end < MOST_BYTES && isLetter(tape.byteAt(end)); end++) {
                code = withLetter(code, tape.byteAt(end));
            }
            add(end - from > MOST_LETTERS ? BAD : kindOf(code), from, code);
            return end;
        }

        private int scanDigits(Tape tape, int from) {
            int value = 0;
            int end = from;
            for (; end < MOST_BYTES && isDigit(tape.byteAt(end)); end++) {
                value = 10 * value + tape.byteAt(end) - '0';
            }
            add(end - from > MOST_DIGITS ? BAD : INT, from, value);
            return end;
        }

        private int kindOf(long code) {
            for (int i = 0; i < words.length; i++) {
                if (words[i] == code) {
                    return FIRST_WORD + i;
                }
            }
            return NAME;
        }

        private void add(int kind, int from, long value) {
            put(kinds, size, kind);
            put(places, size, from);
            putLong(values, size, value);
            size++;
        }

        private static int behindBlanks(Tape tape, int from) {
            int i = from;
            while (i < MOST_BYTES && isBlank(tape.byteAt(i))) {
                i++;
            }
            return i;
        }

        private static long withLetter(long code, int c) {
            return code * 32 + c - 'a' + 1;
        }

        private static boolean isBlank(int c) {
            return c == 9 || c == 10 || c == 13 || c == 32;
        }

        private static boolean isLetter(int c) {
            return c >= 'a' && c <= 'z';
        }

        private static boolean isDigit(int c) {
            return c >= '0' && c <= '9';
        }
    }

    /** Its Es one behind the other, operators behind what they join: INTs as they are, all else as its kind below 0. */
    private static final class Law {
        // Two values wait in each ( and three may stand in the innermost one.
        private static final int STACK = 2 * MOST_DEPTH + 3;

        private final int[] code = new int[MOST_TOKENS];
        private final int[] ends = new int[3 * MOST_IFS + 1];
        private final int[] stack = new int[STACK];
        private int size = 0;
        private int parts = 0;
        private boolean broken = false;

        void clear() {
            size = 0;
            parts = 0;
        }

        void setTo(int element) {
            clear();
            add(element);
            endPart();
        }

        void add(int element) {
            if (size >= 0 && size < code.length) {
                code[size] = element;
                size++;
            }
        }

        void endPart() {
            if (parts >= 0 && parts < ends.length) {
                ends[parts] = size;
                parts++;
            }
        }

        int valueOf(int[] vars) {
            broken = false;
            int part = 0;
            // Three Es for each if, and the one behind all of them.
            while (part + 3 < parts) {
                boolean less = partOf(part, vars) < partOf(part + 1, vars);
                if (broken) {
                    return 0;
                }
                if (less) {
                    part += 2;
                    break;
                }
                part += 3;
            }
            int value = partOf(part, vars);
            return broken ? 0 : value;
        }

        private int partOf(int part, int[] vars) {
            int end = part >= 0 && part < ends.length ? ends[part] : 0;
            int top = 0;
            for (int i = part > 0 && part <= ends.length ? ends[part - 1] : 0; i >= 0 && i < end && i < code.length; i++) {
                int element = code[i];
                int named = -element - FIRST_VAR;
                if (element >= 0 && top < stack.length) {
                    stack[top] = element;
                    top++;
                } else if (named >= 0 && named < vars.length && top < stack.length) {
                    stack[top] = vars[named];
                    top++;
                } else if (top >= 2 && top <= stack.length) {
                    stack[top - 2] = joined(-element, stack[top - 2], stack[top - 1]);
                    top--;
                }
            }
            return stack[0];
        }

        private int joined(int sign, int a, int b) {
            switch (sign) {
                case '+':
                    return a + b;
                case '-':
                    return a - b;
                case '*':
                    return a * b;
                default:
                    broken |= b == 0;
                    return b == 0 ? 0 : a / b;
            }
        }
    }

    /** What a text tells. */
    private static final class Text {
        private final long[] clerkNames = new long[MOST_CLERKS];
        private final int[] ages = new int[MOST_CLERKS];
        private final int[] firsts = new int[MOST_CLERKS * FEATURES];
        private final long[] deedNames = new long[MOST_DEEDS];
        private final int[] worths = new int[MOST_DEEDS];
        private final int[] needs = new int[MOST_DEEDS * FEATURES];
        private final int[] treatyDeeds = new int[MOST_TREATIES * 2];
        private final Law taking = new Law();
        private final Law growing = new Law();
        private final Law binding = new Law();
        private final Law fading = new Law();
        private int clerks = 0;
        private int deeds = 0;
        private int treaties = 0;
        private int slips = 0;
        private int seed = 0;

        Text() {
            clear();
        }

        void clear() {
            clerks = 0;
            deeds = 0;
            treaties = 0;
            slips = 0;
            seed = 0;
            taking.setTo(-FIRST_VAR - NEED);
            growing.setTo(0);
            binding.setTo(-FIRST_VAR - WORTH);
            fading.setTo(0);
        }

        int firstOf(int clerk, int feature) {
            return at(firsts, clerk * FEATURES + feature);
        }

        int worthOf(int deed) {
            return at(worths, deed);
        }

        int needOf(int deed, int feature) {
            return at(needs, deed * FEATURES + feature);
        }

        int treatyDeed(int treaty, int side) {
            return at(treatyDeeds, treaty * 2 + side);
        }

        boolean hasName(long name) {
            for (int i = 0; i < clerks && i < clerkNames.length; i++) {
                if (clerkNames[i] == name) {
                    return true;
                }
            }
            return deedNamed(name) != NONE;
        }

        int deedNamed(long name) {
            for (int i = 0; i < deeds && i < deedNames.length; i++) {
                if (deedNames[i] == name) {
                    return i;
                }
            }
            return NONE;
        }
    }

    /** Reads tokens into a text; at a fault of syntax or room it stands still, and all that is asked of it then is idle. */
    private static final class Reader {
        private final Tokens tokens;
        private int next = 0;
        private int kind = END;
        private int fault = 0;
        private int lateFault = 0;
        private int lateToken = 0;
        private int faultPlace = NONE;

        Reader(Tokens tokens) {
            this.tokens = tokens;
        }

        int parse(Text draft) {
            draft.clear();
            next = 0;
            kind = tokens.kindAt(0);
            fault = 0;
            lateFault = 0;
            for (int n = 0; n <= MOST_TOKENS && fault == 0 && kind != END; n++) {
                parseTell(draft);
            }
            // Those of names and numbers count only where there is none of syntax or room.
            faultPlace = tokens.placeAt(fault == 0 ? lateToken : next);
            return fault == 0 ? lateFault : fault;
        }

        private void parseTell(Text draft) {
            switch (kind) {
                case CLERK_WORD:
                    parseClerk(draft);
                    break;
                case DEED_WORD:
                    parseDeed(draft);
                    break;
                case TREATY_WORD:
                    parseTreaty(draft);
                    break;
                case TAKES_WORD:
                    parseLaw(draft.taking);
                    break;
                case GROWS_WORD:
                    parseLaw(draft.growing);
                    break;
                case BINDS_WORD:
                    parseLaw(draft.binding);
                    break;
                case FADES_WORD:
                    parseLaw(draft.fading);
                    break;
                case SLIPS_WORD:
                    accept(SLIPS_WORD);
                    draft.slips = acceptInt(MOST_SLIPS);
                    break;
                case SEED_WORD:
                    accept(SEED_WORD);
                    draft.seed = acceptInt(MOST_SEED);
                    break;
                default:
                    fail(SYNTAX);
                    break;
            }
            accept(';');
        }

        private void parseClerk(Text draft) {
            int clerk = draft.clerks;
            if (clerk == MOST_CLERKS) {
                fail(ROOM);
            }
            accept(CLERK_WORD);
            long name = acceptNewName(draft);
            int age = acceptInt(MOST_AGE);
            acceptLevels(draft.firsts, clerk);
            putLong(draft.clerkNames, clerk, name);
            put(draft.ages, clerk, age);
            draft.clerks = Math.min(clerk + 1, MOST_CLERKS);
        }

        private void parseDeed(Text draft) {
            int deed = draft.deeds;
            if (deed == MOST_DEEDS) {
                fail(ROOM);
            }
            accept(DEED_WORD);
            long name = acceptNewName(draft);
            int worth = acceptInt(MOST_WORTH);
            acceptLevels(draft.needs, deed);
            putLong(draft.deedNames, deed, name);
            put(draft.worths, deed, worth);
            draft.deeds = Math.min(deed + 1, MOST_DEEDS);
        }

        private void parseTreaty(Text draft) {
            int treaty = draft.treaties;
            if (treaty == MOST_TREATIES) {
                fail(ROOM);
            }
            accept(TREATY_WORD);
            int one = acceptDeed(draft);
            int second = next;
            int other = acceptDeed(draft);
            if (one == other && one != NONE) {
                failLate(TWICE, second);
            }
            put(draft.treatyDeeds, treaty * 2, one);
            put(draft.treatyDeeds, treaty * 2 + 1, other);
            draft.treaties = Math.min(treaty + 1, MOST_TREATIES);
        }

        private void parseLaw(Law law) {
            law.clear();
            accept(kind);
            accept('=');
            for (int n = 0; n <= MOST_IFS && fault == 0 && kind == IF_WORD; n++) {
                if (n == MOST_IFS) {
                    fail(ROOM);
                }
                accept(IF_WORD);
                parseSum(law, 0);
                law.endPart();
                accept('<');
                parseSum(law, 0);
                law.endPart();
                accept(THEN_WORD);
                parseSum(law, 0);
                law.endPart();
                accept(ELSE_WORD);
            }
            parseSum(law, 0);
            law.endPart();
        }

        private void parseSum(Law law, int depth) {
            parseProduct(law, depth);
            for (int n = 0; n < MOST_TOKENS && fault == 0 && (kind == '+' || kind == '-'); n++) {
                int sign = kind;
                accept(sign);
                parseProduct(law, depth);
                law.add(-sign);
            }
        }

        private void parseProduct(Law law, int depth) {
            parseUnit(law, depth);
            for (int n = 0; n < MOST_TOKENS && fault == 0 && (kind == '*' || kind == '/'); n++) {
                int sign = kind;
                accept(sign);
                parseUnit(law, depth);
                law.add(-sign);
            }
        }

        private void parseUnit(Law law, int depth) {
            if (fault != 0) {
                return;
            }
            if (kind == INT) {
                law.add((int) tokens.valueAt(next));
                accept(INT);
            } else if (kind >= FIRST_VAR) {
                law.add(-kind);
                accept(kind);
            } else if (kind != '(') {
                fail(SYNTAX);
            } else if (depth >= MOST_DEPTH) {
                fail(ROOM);
            } else {
                accept('(');
                parseSum(law, depth + 1);
                accept(')');
            }
        }

        private boolean accept(int wanted) {
            if (fault != 0) {
                return false;
            }
            if (kind != wanted) {
                fault = SYNTAX;
            } else if (next >= MOST_TOKENS) {
                fault = ROOM;
            } else {
                next++;
                kind = next >= 0 && next < tokens.kinds.length ? tokens.kinds[next] : END;
            }
            return fault == 0;
        }

        private int acceptInt(int most) {
            int token = next;
            if (!accept(INT)) {
                return 0;
            }
            int value = (int) tokens.valueAt(token);
            if (value > most) {
                failLate(WRONG, token);
            }
            return value;
        }

        private void acceptLevels(int[] row, int which) {
            for (int feature = 0; feature < FEATURES; feature++) {
                put(row, which * FEATURES + feature, acceptInt(MOST_LEVEL));
            }
        }

        private long acceptNewName(Text draft) {
            int token = next;
            long name = tokens.valueAt(token);
            if (accept(NAME) && draft.hasName(name)) {
                failLate(TWICE, token);
            }
            return name;
        }

        private int acceptDeed(Text draft) {
            int token = next;
            if (!accept(NAME)) {
                return NONE;
            }
            int deed = draft.deedNamed(tokens.valueAt(token));
            if (deed == NONE) {
                failLate(NO_NAME, token);
            }
            return deed;
        }

        private void fail(int number) {
            if (fault == 0) {
                fault = number;
            }
        }

        private void failLate(int number, int token) {
            if (lateFault == 0) {
                lateFault = number;
                lateToken = token;
            }
        }
    }

    /** All that goes on. */
    private static final class Scene {
        private final int[] row = new int[SCENE_SIZE];
        // Another number after each change, so that what was worked out for one scene is not told of another.
        private int stamp = 0;

        int levelOf(int clerk, int feature) {
            return at(row, clerk * FEATURES + feature);
        }

        int printOf(int deed, int feature) {
            return at(row, PRINTS_AT + deed * FEATURES + feature);
        }

        int sealerOf(int deed) {
            return deed >= 0 && deed < MOST_DEEDS ? row[SEALERS_AT + deed] : OPEN;
        }

        int yearNow() {
            return row[YEAR_AT];
        }

        void setLevel(int clerk, int feature, int v) {
            put(row, clerk * FEATURES + feature, v);
            stamp++;
        }

        void setPrint(int deed, int feature, int v) {
            put(row, PRINTS_AT + deed * FEATURES + feature, v);
            stamp++;
        }

        void setSealer(int deed, int sealer) {
            put(row, SEALERS_AT + deed, sealer);
            stamp++;
        }

        void setYear(int v) {
            row[YEAR_AT] = v;
            stamp++;
        }

        void copyTo(int[] rows, int which) {
            if (which >= 0 && which < rows.length / SCENE_SIZE) {
                System.arraycopy(row, 0, rows, which * SCENE_SIZE, SCENE_SIZE);
            }
        }

        void copyFrom(int[] rows, int which) {
            if (which >= 0 && which < rows.length / SCENE_SIZE) {
                System.arraycopy(rows, which * SCENE_SIZE, row, 0, SCENE_SIZE);
                stamp++;
            }
        }
    }

    /** Scenes to go back to: the last ones, in a ring, and the slots. */
    private static final class Memory {
        private final int[] ring = new int[MOST_UNDONE * SCENE_SIZE];
        private final int[] slots = new int[MOST_SLOTS * SCENE_SIZE];
        private int fullSlots = 0;
        private int next = 0;
        private int size = 0;

        void clearAll() {
            size = 0;
            fullSlots = 0;
        }

        void remember(Scene scene) {
            scene.copyTo(ring, next);
            next = next + 1 < MOST_UNDONE ? next + 1 : 0;
            size = Math.min(size + 1, MOST_UNDONE);
        }

        boolean recall(Scene scene) {
            if (size == 0) {
                return false;
            }
            next = next > 0 ? next - 1 : MOST_UNDONE - 1;
            size--;
            scene.copyFrom(ring, next);
            return true;
        }

        boolean fillSlot(int slot, Scene scene) {
            if (slot < 0 || slot >= MOST_SLOTS) {
                return false;
            }
            scene.copyTo(slots, slot);
            fullSlots |= 1 << slot;
            return true;
        }

        boolean takeSlot(int slot, Scene scene) {
            if (slot < 0 || slot >= MOST_SLOTS || !hasBit(fullSlots, slot)) {
                return false;
            }
            scene.copyFrom(slots, slot);
            size = 0;
            return true;
        }

        int slotsFull() {
            return Integer.bitCount(fullSlots);
        }
    }

    /** The text and the scene together: what the laws make of them. */
    private static final class Hall {
        private final Scene scene = new Scene();
        private final int[] vars = new int[VARS];
        // What the clerk whom canSeal was asked of last would give of each feature.
        private final int[] wanted = new int[FEATURES];
        private Text text = new Text();

        /** Answers the text that was there ahead, to be written over. */
        Text begin(Text read) {
            Text old = text;
            text = read;
            for (int clerk = 0; clerk < MOST_CLERKS; clerk++) {
                for (int feature = 0; feature < FEATURES; feature++) {
                    scene.setLevel(clerk, feature, text.firstOf(clerk, feature));
                }
            }
            for (int deed = 0; deed < MOST_DEEDS; deed++) {
                putOpen(deed);
            }
            scene.setYear(0);
            return old;
        }

        boolean isClerk(int clerk) {
            return clerk >= 0 && clerk < text.clerks;
        }

        boolean isDeed(int deed) {
            return deed >= 0 && deed < text.deeds;
        }

        boolean isOpen(int deed) {
            return isDeed(deed) && scene.sealerOf(deed) == OPEN;
        }

        boolean isSealed(int deed) {
            return isDeed(deed) && scene.sealerOf(deed) >= 0;
        }

        int ageIn(int clerk, int year) {
            return at(text.ages, clerk) + year;
        }

        /** The sealer may be OPEN or FORGED as well. */
        int deedsWith(int sealer) {
            int bits = 0;
            for (int deed = 0; deed < text.deeds; deed++) {
                if (scene.sealerOf(deed) == sealer) {
                    bits |= 1 << deed;
                }
            }
            return bits;
        }

        int deedsOf(int clerk) {
            return deedsWith(clerk);
        }

        int sealedBy(int clerk) {
            return Integer.bitCount(deedsWith(clerk));
        }

        int takesNow(int clerk, int deed, int feature) {
            return takesOf(clerk, deed, feature, scene.levelOf(clerk, feature), sealedBy(clerk));
        }

        int takesOf(int clerk, int deed, int feature, int level, int sealed) {
            Arrays.fill(vars, 0);
            vars[NEED] = text.needOf(deed, feature);
            vars[LEVEL] = level;
            vars[AGE] = ageIn(clerk, scene.yearNow());
            vars[WORTH] = text.worthOf(deed);
            vars[FEATURE] = feature;
            vars[YEAR] = scene.yearNow();
            vars[SEALED] = sealed;
            vars[WHICH] = clerk;
            return heldTo(text.taking.valueOf(vars), MOST_LEVEL);
        }

        int bindsOf(int clerk, int deed, int sealed, int print, int year) {
            Arrays.fill(vars, 0);
            vars[AGE] = ageIn(clerk, year);
            vars[WORTH] = text.worthOf(deed);
            vars[YEAR] = year;
            vars[SEALED] = sealed;
            vars[WHICH] = clerk;
            vars[PRINT] = print;
            return heldTo(text.binding.valueOf(vars), MOST_BINDS);
        }

        private int grown(int clerk, int feature, int level, int sealed, int year) {
            Arrays.fill(vars, 0);
            vars[LEVEL] = level;
            vars[AGE] = ageIn(clerk, year);
            vars[FEATURE] = feature;
            vars[YEAR] = year;
            vars[SEALED] = sealed;
            vars[WHICH] = clerk;
            int grows = heldTo(text.growing.valueOf(vars), MOST_LEVEL);
            return Math.min(level + grows, text.firstOf(clerk, feature));
        }

        private int faded(int deed, int feature, int print, int year) {
            Arrays.fill(vars, 0);
            vars[NEED] = text.needOf(deed, feature);
            vars[WORTH] = text.worthOf(deed);
            vars[FEATURE] = feature;
            vars[YEAR] = year;
            vars[WHICH] = deed;
            vars[PRINT] = print;
            int fades = heldTo(text.fading.valueOf(vars), MOST_LEVEL);
            return Math.max(print - fades, 0);
        }

        boolean canSeal(int clerk, int deed) {
            boolean enough = isOpen(deed);
            int left = 0;
            int sealed = sealedBy(clerk);
            for (int feature = 0; feature < FEATURES; feature++) {
                int level = scene.levelOf(clerk, feature);
                int takes = takesOf(clerk, deed, feature, level, sealed);
                put(wanted, feature, takes);
                left += level - takes;
                enough = enough && level >= takes;
            }
            return enough && left > 0;
        }

        /** Only behind a canSeal of these two that held. */
        void putSeal(int clerk, int deed) {
            for (int feature = 0; feature < FEATURES; feature++) {
                int takes = at(wanted, feature);
                scene.setLevel(clerk, feature, scene.levelOf(clerk, feature) - takes);
                scene.setPrint(deed, feature, takes);
            }
            scene.setSealer(deed, clerk);
        }

        void putForgery(int deed) {
            for (int feature = 0; feature < FEATURES; feature++) {
                scene.setPrint(deed, feature, text.needOf(deed, feature));
            }
            scene.setSealer(deed, FORGED);
        }

        void putOpen(int deed) {
            for (int feature = 0; feature < FEATURES; feature++) {
                scene.setPrint(deed, feature, 0);
            }
            scene.setSealer(deed, OPEN);
        }

        void passYear() {
            for (int clerk = 0; clerk < text.clerks; clerk++) {
                for (int feature = 0; feature < FEATURES; feature++) {
                    scene.setLevel(clerk, feature, levelAfter(clerk, feature, 1));
                }
            }
            for (int deed = 0; deed < text.deeds; deed++) {
                for (int feature = 0; feature < FEATURES; feature++) {
                    scene.setPrint(deed, feature, printAfter(deed, feature, 1));
                }
            }
            scene.setYear(scene.yearNow() + 1);
        }

        int levelAfter(int clerk, int feature, int n) {
            int level = scene.levelOf(clerk, feature);
            int sealed = sealedBy(clerk);
            for (int i = 0; i < n; i++) {
                level = grown(clerk, feature, level, sealed, scene.yearNow() + i);
            }
            return level;
        }

        int printAfter(int deed, int feature, int n) {
            int print = scene.printOf(deed, feature);
            for (int i = 0; i < n && print > 0; i++) {
                print = faded(deed, feature, print, scene.yearNow() + i);
            }
            return print;
        }

        int yearsToHeal(int clerk, int feature) {
            int level = scene.levelOf(clerk, feature);
            int sealed = sealedBy(clerk);
            for (int i = 0; i <= LONGEST_WAIT; i++) {
                if (level == text.firstOf(clerk, feature)) {
                    return i;
                }
                level = grown(clerk, feature, level, sealed, scene.yearNow() + i);
            }
            return NOT;
        }

        int yearsToFade(int deed, int feature) {
            int print = scene.printOf(deed, feature);
            for (int i = 0; i <= LONGEST_WAIT; i++) {
                if (print == 0) {
                    return i;
                }
                print = faded(deed, feature, print, scene.yearNow() + i);
            }
            return NOT;
        }

        int bindsAfter(int deed, int n) {
            if (!isSealed(deed)) {
                return 0;
            }
            int print = 0;
            for (int feature = 0; feature < FEATURES; feature++) {
                print += printAfter(deed, feature, n);
            }
            int clerk = scene.sealerOf(deed);
            return bindsOf(clerk, deed, sealedBy(clerk), print, scene.yearNow() + n);
        }

        int allBindAfter(int n) {
            int sum = 0;
            for (int deed = 0; deed < text.deeds; deed++) {
                sum += bindsAfter(deed, n);
            }
            return sum;
        }

        boolean isHeld(int treaty) {
            int one = text.treatyDeed(treaty, 0);
            int other = text.treatyDeed(treaty, 1);
            return isSealed(one) && isSealed(other) && scene.sealerOf(one) != scene.sealerOf(other);
        }

        int treatiesHeld() {
            int held = 0;
            for (int treaty = 0; treaty < text.treaties; treaty++) {
                if (isHeld(treaty)) {
                    held++;
                }
            }
            return held;
        }

        int treatyBinds(int treaty) {
            return Math.min(bindsAfter(text.treatyDeed(treaty, 0), 0), bindsAfter(text.treatyDeed(treaty, 1), 0));
        }

        int clerksFor(int deed) {
            int bits = 0;
            for (int clerk = 0; clerk < text.clerks && isOpen(deed); clerk++) {
                if (canSeal(clerk, deed)) {
                    bits |= 1 << clerk;
                }
            }
            return bits;
        }

        int deedsFor(int clerk) {
            int bits = 0;
            for (int deed = 0; deed < text.deeds; deed++) {
                if (isOpen(deed) && canSeal(clerk, deed)) {
                    bits |= 1 << deed;
                }
            }
            return bits;
        }

        int stuckDeeds() {
            int bits = 0;
            for (int deed = 0; deed < text.deeds; deed++) {
                if (isOpen(deed) && clerksFor(deed) == 0) {
                    bits |= 1 << deed;
                }
            }
            return bits;
        }

        int idleClerks() {
            int bits = 0;
            for (int clerk = 0; clerk < text.clerks; clerk++) {
                if (deedsFor(clerk) == 0) {
                    bits |= 1 << clerk;
                }
            }
            return bits;
        }

        int levelsOf(int clerk) {
            int sum = 0;
            for (int feature = 0; feature < FEATURES; feature++) {
                sum += scene.levelOf(clerk, feature);
            }
            return sum;
        }

        int allLevels() {
            int sum = 0;
            for (int clerk = 0; clerk < text.clerks; clerk++) {
                sum += levelsOf(clerk);
            }
            return sum;
        }

        int allPrints() {
            int sum = 0;
            for (int deed = 0; deed < text.deeds; deed++) {
                for (int feature = 0; feature < FEATURES; feature++) {
                    sum += scene.printOf(deed, feature);
                }
            }
            return sum;
        }

        int printsDiffer(int deed, int other) {
            int sum = 0;
            for (int feature = 0; feature < FEATURES; feature++) {
                sum += Math.abs(scene.printOf(deed, feature) - scene.printOf(other, feature));
            }
            return sum;
        }

        int readBy(int deed, int seed) {
            int clerk = scene.sealerOf(deed);
            if (lot(100, seed, 8 * scene.yearNow() + deed) >= text.slips) {
                return clerk;
            }
            return clerk + 1 < text.clerks ? clerk + 1 : 0;
        }

        private static int lot(int n, int seed, int which) {
            int h = mixed(mixed(seed, 189), which) >>> 1;
            return n > 0 ? h % n : 0;
        }

        private static int mixed(int h, int it) {
            int next = (h ^ it) * 1103515245 + 12345;
            return next ^ (next >>> 15);
        }
    }

    /**
     * How open deeds are sealed one behind the other. What a clerk can give a deed hangs on which deeds ahead they
     * sealed, not on what others did: so each clerk's sets of deeds are worked out alone, and then put together.
     */
    private static final class Plan {
        private static final int CODES = 46656;
        private static final int[] WEIGHTS = {7776, 1296, 216, 36, 6, 1};

        private final Hall hall;
        private final long[] canSets = new long[MOST_CLERKS];
        private final int[] scores = new int[MOST_CLERKS * DEED_SETS];
        private final int[] left = new int[DEED_SETS * FEATURES];
        private final int[] lastPrints = new int[DEED_SETS];
        private final int[] best = new int[DEED_SETS];
        private final long[] reached = new long[CLERK_SETS];
        private int madeFor = NONE;

        Plan(Hall hall) {
            this.hall = hall;
        }

        /** Goes ahead of all that is asked of a plan. */
        void prepare() {
            if (madeFor == hall.scene.stamp) {
                return;
            }
            madeFor = hall.scene.stamp;
            int open = hall.deedsWith(OPEN);
            for (int clerk = 0; clerk < hall.text.clerks; clerk++) {
                prepareClerk(clerk, open);
            }
        }

        int mostBound() {
            return boundBy(bestScore());
        }

        int sealerFor(int deed) {
            int score = bestScore();
            int code = boundBy(score) * CODES - score;
            int weight = at(WEIGHTS, deed);
            int digit = weight > 0 ? code / weight % 6 : 0;
            return digit == 0 ? NOT : digit - 1;
        }

        /** Bits, or NOT. */
        int fewestClerks() {
            int open = hall.deedsWith(OPEN);
            putLong(reached, 0, 1L);
            for (int last = 0; last < hall.text.clerks; last++) {
                for (int ahead = 0; ahead < 1 << last; ahead++) {
                    long sets = reachedWith(longAt(reached, ahead), longAt(canSets, last), open);
                    putLong(reached, ahead | 1 << last, sets);
                }
            }
            int found = NOT;
            for (int clerks = 0; clerks < 1 << hall.text.clerks; clerks++) {
                boolean fewer = found == NOT || Integer.bitCount(clerks) < Integer.bitCount(found);
                if (fewer && hasSet(longAt(reached, clerks), open)) {
                    found = clerks;
                }
            }
            return found;
        }

        private static long reachedWith(long ahead, long can, int open) {
            long all = 0;
            for (int set = 0; set < DEED_SETS; set++) {
                int rest = open & ~set;
                if (hasSet(ahead, set)) {
                    all |= 1L << set;
                    for (int n = 0, part = rest; n < DEED_SETS && part != 0; n++, part = (part - 1) & rest) {
                        if (hasSet(can, part)) {
                            all |= 1L << (set | part);
                        }
                    }
                }
            }
            return all;
        }

        // A score is CODES for each that is bound, less a number whose digits of base 6 tell who seals each deed:
        // so that of alike ones the one that goes ahead scores most, and the score alone tells all.
        private static int boundBy(int score) {
            return -Math.floorDiv(-score, CODES);
        }

        private int bestScore() {
            Arrays.fill(best, NEVER);
            put(best, 0, 0);
            int open = hall.deedsWith(OPEN);
            for (int clerk = 0; clerk < hall.text.clerks; clerk++) {
                joinClerk(clerk, open);
            }
            int most = 0;
            for (int set = 0; set < best.length; set++) {
                most = Math.max(most, best[set]);
            }
            return most;
        }

        /** From the largest set down, as each one needs what smaller ones were without this clerk. */
        private void joinClerk(int clerk, int open) {
            long can = longAt(canSets, clerk);
            for (int set = open; set > 0; set--) {
                int most = at(best, set);
                boolean known = (set & ~open) == 0;
                for (int n = 0, part = set; known && n < DEED_SETS && part != 0; n++, part = (part - 1) & set) {
                    if (hasSet(can, part)) {
                        most = Math.max(most, at(best, set ^ part) + at(scores, clerk * DEED_SETS + part));
                    }
                }
                put(best, set, most);
            }
        }

        private void prepareClerk(int clerk, int open) {
            int sealed = hall.sealedBy(clerk);
            for (int feature = 0; feature < FEATURES; feature++) {
                put(left, feature, hall.scene.levelOf(clerk, feature));
            }
            long can = 1L;
            for (int deed = 0; deed < hall.text.deeds; deed++) {
                for (int ahead = 0; ahead < 1 << deed && hasBit(open, deed); ahead++) {
                    int set = ahead | 1 << deed;
                    if (hasSet(can, ahead) && canSealLast(clerk, ahead, deed, sealed + Integer.bitCount(ahead))) {
                        can |= 1L << set;
                        put(scores, clerk * DEED_SETS + set, scoreOf(clerk, set, sealed + Integer.bitCount(set)));
                    }
                }
            }
            putLong(canSets, clerk, can);
        }

        private boolean canSealLast(int clerk, int ahead, int deed, int sealed) {
            int set = ahead | 1 << deed;
            boolean enough = true;
            int print = 0;
            int rest = 0;
            for (int feature = 0; feature < FEATURES; feature++) {
                int level = at(left, ahead * FEATURES + feature);
                int takes = hall.takesOf(clerk, deed, feature, level, sealed);
                put(left, set * FEATURES + feature, level - takes);
                enough = enough && level >= takes;
                print += takes;
                rest += level - takes;
            }
            put(lastPrints, set, print);
            return enough && rest > 0;
        }

        private int scoreOf(int clerk, int set, int sealed) {
            int score = 0;
            for (int deed = 0; deed < MOST_DEEDS; deed++) {
                if (hasBit(set, deed)) {
                    int print = at(lastPrints, set & ((2 << deed) - 1));
                    int binds = hall.bindsOf(clerk, deed, sealed, print, hall.scene.yearNow());
                    score += binds * CODES - (clerk + 1) * at(WEIGHTS, deed);
                }
            }
            return score;
        }

        private static boolean hasSet(long sets, int set) {
            return (sets >>> set & 1L) == 1L;
        }
    }

    /** Who is given what, who takes what first, whose deeds are needed. */
    private static final class Choices {
        private final Hall hall;
        private final int[] clerksFor = new int[MOST_DEEDS];
        private final int[] most = new int[(MOST_DEEDS + 1) * CLERK_SETS];
        private final int[] binds = new int[MOST_DEEDS];
        private final int[] gains = new int[DEED_SETS];

        Choices(Hall hall) {
            this.hall = hall;
        }

        /** Goes ahead of matched and matchFor. */
        void fillMatches() {
            int deeds = hall.text.deeds;
            for (int used = 0; used < CLERK_SETS; used++) {
                put(most, deeds * CLERK_SETS + used, 0);
            }
            for (int deed = deeds - 1; deed >= 0; deed--) {
                put(clerksFor, deed, hall.clerksFor(deed));
                for (int used = 0; used < CLERK_SETS; used++) {
                    put(most, deed * CLERK_SETS + used, mostWith(deed, used));
                }
            }
        }

        int matched() {
            return mostFrom(0, 0);
        }

        int matchFor(int wanted) {
            int used = 0;
            int given = NOT;
            for (int deed = 0; deed <= wanted && deed < MOST_DEEDS; deed++) {
                given = lowestFor(deed, used);
                if (given != NOT) {
                    used |= 1 << given;
                }
            }
            return given;
        }

        /** The most deeds that can be matched from this one on, with the clerks that are not used. */
        private int mostFrom(int deed, int used) {
            return at(most, deed * CLERK_SETS + used);
        }

        private int mostWith(int deed, int used) {
            int found = mostFrom(deed + 1, used);
            int free = at(clerksFor, deed) & ~used;
            for (int clerk = 0; clerk < MOST_CLERKS; clerk++) {
                if (hasBit(free, clerk)) {
                    found = Math.max(found, 1 + mostFrom(deed + 1, used | 1 << clerk));
                }
            }
            return found;
        }

        private int lowestFor(int deed, int used) {
            int free = at(clerksFor, deed) & ~used;
            for (int clerk = 0; clerk < MOST_CLERKS; clerk++) {
                if (hasBit(free, clerk) && 1 + mostFrom(deed + 1, used | 1 << clerk) == mostFrom(deed, used)) {
                    return clerk;
                }
            }
            return NOT;
        }

        /** Of each set the prince whose turn it is gains most over the other; goes ahead of princesGain and princesPick. */
        void fillGains() {
            int closed = closedDeeds();
            for (int deed = 0; deed < hall.text.deeds; deed++) {
                put(binds, deed, hall.bindsAfter(deed, 0));
            }
            put(gains, 0, 0);
            for (int set = 1; set <= closed; set++) {
                int gain = NEVER;
                for (int deed = 0; deed < MOST_DEEDS; deed++) {
                    if (hasBit(set, deed)) {
                        gain = Math.max(gain, gainBy(deed, set));
                    }
                }
                put(gains, set, gain);
            }
        }

        int princesGain() {
            return at(gains, closedDeeds());
        }

        int princesPick() {
            int closed = closedDeeds();
            for (int deed = 0; deed < MOST_DEEDS; deed++) {
                if (hasBit(closed, deed) && gainBy(deed, closed) == at(gains, closed)) {
                    return deed;
                }
            }
            return NOT;
        }

        private int closedDeeds() {
            return ((1 << hall.text.deeds) - 1) & ~hall.deedsWith(OPEN);
        }

        private int gainBy(int deed, int set) {
            return at(binds, deed) - at(gains, set ^ 1 << deed);
        }

        /** Bits. */
        int breakers() {
            int found = CLERK_SETS - 1;
            for (int clerks = 0; clerks < CLERK_SETS; clerks++) {
                if (Integer.bitCount(clerks) < Integer.bitCount(found) && breakAll(clerks)) {
                    found = clerks;
                }
            }
            return found;
        }

        private boolean breakAll(int clerks) {
            for (int treaty = 0; treaty < hall.text.treaties; treaty++) {
                if (hall.isHeld(treaty) && !isSealedByOne(treaty, clerks)) {
                    return false;
                }
            }
            return true;
        }

        private boolean isSealedByOne(int treaty, int clerks) {
            int one = hall.scene.sealerOf(hall.text.treatyDeed(treaty, 0));
            int other = hall.scene.sealerOf(hall.text.treatyDeed(treaty, 1));
            return hasBit(clerks, one) || hasBit(clerks, other);
        }
    }

    /** What was told of a print. */
    private static final class Told {
        private final int[] features = new int[MOST_TOLD];
        private final int[] levels = new int[MOST_TOLD];
        private final boolean[] reached = new boolean[MOST_TOLD];
        private int size = 0;

        int add(int feature, int level, boolean so) {
            if (size < 0 || size >= MOST_TOLD) {
                return NONE;
            }
            features[size] = feature;
            levels[size] = level;
            reached[size] = so;
            size++;
            return size - 1;
        }

        int drop() {
            int dropped = size;
            size = 0;
            return dropped;
        }

        boolean isKnown(int k) {
            return k >= 0 && k <= size;
        }

        boolean fits(int k, int[] print) {
            for (int i = 0; i < k && i < MOST_TOLD; i++) {
                boolean reaches = at(print, features[i]) >= levels[i];
                if (reaches != reached[i]) {
                    return false;
                }
            }
            return true;
        }
    }
}
