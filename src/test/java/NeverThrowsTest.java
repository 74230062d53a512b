import java.lang.reflect.InvocationTargetException;
import java.lang.reflect.Method;
import java.util.Arrays;
import java.util.Comparator;

/** Rule 7 and the room: no call throws, whatever it is given in whatever state, and none makes objects. */
public final class NeverThrowsTest {
    private static final Due DUE = new Due();
    private static final int[] ODD = {Integer.MIN_VALUE, -1431655765, -33, -2, -1, 0, 1, 2, 5, 6, 9, 31, 32, 41, 715827883, Integer.MAX_VALUE};
    private static final String FULL = "clerk a 1 9 9 9;clerk b 2 9 9 9;clerk c 3 9 9 9;clerk d 4 9 9 9;clerk e 99 9 9 9;"
        + "deed u 99 9 9 8;deed v 9 1 2 3;deed w 99 1 1 1;deed x 0 0 0 0;deed y 99 9 9 8;deed z 99 9 9 9;"
        + "treaty u v;treaty u w;treaty u x;treaty u y;treaty v w;treaty x y;"
        + "takes=need/(sealed+1-year/9);grows=year/(feature-1);binds=worth*worth*worth*print/(which-sealed);fades=9999*9999*print-which/(year-3);slips 50;seed 9999;";
    private static final int STATES = 4;

    private static int calls = 0;

    public static void main(String[] args) throws ReflectiveOperationException {
        Method[] face = SealFaces.class.getDeclaredMethods();
        Arrays.sort(face, Comparator.comparing(Method::getName));
        for (Method method : face) {
            if (java.lang.reflect.Modifier.isPublic(method.getModifiers())) {
                for (int state = 0; state < STATES; state++) {
                    throwsNothing(method, state);
                }
            }
        }
        DUE.is("calls made", calls > 100000, true);
        makesNothing();
        DUE.end();
    }

    private static SealFaces made(int state) {
        SealFaces x = new SealFaces();
        if (state > 0) {
            Due.read(x, state == 1 ? "clerk a 1 0 0 1;deed u 1 0 0 0;" : FULL);
        }
        if (state == 3) {
            x.seal(0, 2);
            x.seal(1, 1);
            x.forge(5);
            x.hold(2);
            for (int n = 0; n < 41; n++) {
                x.years(n % 4);
            }
            for (int n = 0; n < 20; n++) {
                x.tell(n % 3, n % 10, n % 2 == 0);
            }
            Due.feed(x, "clerk ".repeat(40));
        }
        return x;
    }

    private static void throwsNothing(Method method, int state) throws ReflectiveOperationException {
        Class<?>[] types = method.getParameterTypes();
        int combinations = 1;
        for (int i = 0; i < Math.min(types.length, 3); i++) {
            combinations *= ODD.length;
        }
        SealFaces x = null;
        for (int n = 0; n < combinations; n++) {
            if (n % 256 == 0) {
                x = made(state);
            }
            Object[] given = new Object[types.length];
            int rest = n;
            for (int i = 0; i < types.length; i++) {
                int odd = ODD[rest % ODD.length];
                given[i] = types[i] == boolean.class ? (Object) (odd % 2 == 0) : (Object) odd;
                rest = i < 2 ? rest / ODD.length : rest + 7;
            }
            try {
                method.invoke(x, given);
                calls++;
            } catch (InvocationTargetException e) {
                DUE.is(method.getName() + Arrays.toString(given) + " threw " + e.getCause(), 1, 0);
            }
        }
    }

    private static int ask(SealFaces x, int i) {
        int sum = x.all(-1) + x.all(i) + x.fewest(0) + x.match(-1) + x.match(i) + x.greatest(0) + x.weakest(1) + x.hands(i) + x.work(i);
        sum += x.game(0) + x.breaks(1) + x.lent(i, 1) + x.apart(i, 0) + x.like(0) + x.twins(1, 1) + x.heals(i) + x.blank(i) + x.barest(1);
        sum += x.reads(i) + x.levelIn(i, 0, 40) + x.printIn(i, 0, 40) + x.bindsIn(40) + x.year(i, 20) + x.who(0, i, 1) + x.look(0, i, 5);
        sum += x.seal(i, i) || x.forge(i) || x.burn(i) ? x.years(1) : 0;
        sum += x.hold(0) && x.restore(0) || x.undo() ? x.count(14) + x.count(15) + x.clerk(i, 8) + x.deed(i, 8) + x.treaty(i, 2) : 1;
        x.feed(0x20202020, 0x20202020, 0x20202020, 0x20202020, 0x20202020);
        return sum + x.tell(0, i, true) + x.forget() + x.takes(i, i, 0) + x.back(20) + x.place();
    }

    /** All calls of one run share a room: some 600,000 objects. */
    private static void makesNothing() {
        com.sun.management.ThreadMXBean threads = (com.sun.management.ThreadMXBean) java.lang.management.ManagementFactory.getThreadMXBean();
        if (!threads.isThreadAllocatedMemorySupported() || !threads.isThreadAllocatedMemoryEnabled()) {
            return;
        }
        long self = Thread.currentThread().getId();
        int sum = 0;
        long made = 0;
        for (int run = 0; run < 50; run++) {
            SealFaces x = made(2);
            ask(x, 0);
            long ahead = threads.getThreadAllocatedBytes(self);
            for (int i = 0; i < 8; i++) {
                sum += ask(x, i % 6);
            }
            sum += x.read();
            made += threads.getThreadAllocatedBytes(self) - ahead;
        }
        // what the asking itself makes is some bytes; one object a call would be 400,000
        DUE.is("bytes made by 20,000 calls are few (" + made + ", " + sum % 2 + ")", made < 100000, true);
    }
}
