import java.lang.reflect.InvocationTargetException;
import java.lang.reflect.Method;
import java.util.ArrayList;
import java.util.Arrays;
import java.util.HashMap;
import java.util.List;
import java.util.Map;
import java.util.function.Supplier;

/** What the tests of boundary cases share: sentences of the document, stations, and how a call is refused. */
final class Bounds {
    static final int BEYOND = -1000000001;
    static final int FULL = -1000000002;
    static final int KIND = -1000000003;
    static final int NONE = -1000000004;
    static final int STATE = -1000000005;
    static final int MISSING = -1000000006;
    static final int SIZE = -1000000007;
    static final int LEAST = Integer.MIN_VALUE;
    static final int GREATEST = Integer.MAX_VALUE;

    static final int PARCEL = 0;
    static final int LADY = 1;
    static final int GLOVE = 2;
    static final int REGIMENT = 3;
    static final int WIFE = 4;
    static final int HATBOX = 5;

    /** Wider than any sheet's numbers but 64 bits: what comes back tells how many it has. */
    private static final long WIDE = 0x7edcba9876543210L;
    private static final Map<String, Method> CALLS = calls();

    private String sentence = "";
    private int sentences = 0;
    private int wrong = 0;

    private static Map<String, Method> calls() {
        Map<String, Method> all = new HashMap<>();
        for (Method m : LeftTillCalled.class.getDeclaredMethods()) {
            if (java.lang.reflect.Modifier.isPublic(m.getModifiers())) {
                all.put(m.getName(), m);
            }
        }
        return all;
    }

    static long ask(LeftTillCalled x, String call, long... args) {
        Method m = CALLS.get(call);
        Class<?>[] types = m.getParameterTypes();
        Object[] given = new Object[types.length];
        for (int i = 0; i < types.length; i++) {
            if (types[i] == int.class) {
                given[i] = Math.toIntExact(args[i]);
            } else {
                given[i] = args[i];
            }
        }
        try {
            return ((Number) m.invoke(x, given)).longValue();
        } catch (IllegalAccessException | InvocationTargetException e) {
            throw new IllegalStateException(told(call, args) + " threw", e);
        }
    }

    static String told(String call, long... args) {
        String all = Arrays.toString(args);
        return call + "(" + all.substring(1, all.length() - 1) + ")";
    }

    /** The words of the document that the following holds the class to. */
    void sentence(String words) {
        sentence = words;
        sentences++;
    }

    void due(String what, long got, long want) {
        if (got != want) {
            wrong++;
            System.out.println("'" + sentence + "': " + what + " is " + got + ", due is " + want);
        }
    }

    void end() {
        System.out.println(wrong == 0 ? sentences + " sentences hold" : wrong + " answers are not as due");
        if (wrong != 0) {
            System.exit(1);
        }
    }

    /** The call tells the finding, counts it once, and changes nothing else that can be seen. */
    void refused(Supplier<LeftTillCalled> station, int finding, String call, long... args) {
        LeftTillCalled x = station.get();
        LeftTillCalled twin = station.get();
        due(told(call, args), ask(x, call, args), finding);
        for (int which = -1; which < 7; which++) {
            int more = which == -1 || which == BEYOND - finding ? 1 : 0;
            due("status(" + which + ") behind " + told(call, args), x.status(which), twin.status(which) + more);
        }
        sameSeen(told(call, args), x, twin);
    }

    /** The call is no finding, or another one than BEYOND. */
    void notBeyond(Supplier<LeftTillCalled> station, String call, long... args) {
        LeftTillCalled x = station.get();
        int before = x.status(0);
        due(told(call, args) + " is BEYOND", ask(x, call, args) == BEYOND ? 1 : 0, 0);
        due("BEYOND counted behind " + told(call, args), x.status(0), before);
    }

    /** Argument i may be from least to most: at both ends, just beyond them and far beyond them. */
    void argument(Supplier<LeftTillCalled> station, int i, long least, long most, String call, long... args) {
        long[] given = args.clone();
        for (long v : new long[] {least, most}) {
            given[i] = v;
            notBeyond(station, call, given);
        }
        for (long v : new long[] {least - 1, most + 1, LEAST, GREATEST}) {
            given[i] = v;
            refused(station, BEYOND, call, given);
        }
    }

    /** The call may answer what it likes: nothing that can be seen changes. */
    void looksOnly(Supplier<LeftTillCalled> station, String call, long... args) {
        LeftTillCalled x = station.get();
        LeftTillCalled twin = station.get();
        long got = ask(x, call, args);
        due("findings behind " + told(call, args), x.status(-1), twin.status(-1) + (got < -1000000000 ? 1 : 0));
        sameSeen(told(call, args), x, twin);
    }

    /** Looks at all of both, which empties their tapes and tears their images. */
    void sameSeen(String call, LeftTillCalled x, LeftTillCalled twin) {
        List<Long> seen = seen(x);
        List<Long> asBefore = seen(twin);
        for (int i = 0; i < seen.size(); i++) {
            due("what is seen as number " + i + " behind " + call, seen.get(i), asBefore.get(i));
        }
    }

    /** All that can be seen: what is, the sheets, THE TAPE by what it tells, the image by undoing. */
    private static List<Long> seen(LeftTillCalled x) {
        List<Long> all = new ArrayList<>();
        seeRoom(x, all);
        for (int s = 0; s < 4; s++) {
            for (int i : new int[] {0, 1, 2, 3, 4, 39, 40}) {
                all.add(x.write(s, i, WIDE));
                all.add(x.write(s, i, WIDE));
            }
        }
        all.add((long) x.station());
        seeRoom(x, all);
        all.add((long) x.undo());
        seeRoom(x, all);
        all.add((long) x.tear());
        return all;
    }

    private static void seeRoom(LeftTillCalled x, List<Long> all) {
        for (int p = 0; p < 6; p++) {
            for (int what = 0; what < 3; what++) {
                all.add((long) x.personOf(p, what));
            }
        }
        int things = x.count(0);
        all.add((long) things);
        for (int t = 0; t < things; t++) {
            for (int what = 0; what < 6; what++) {
                all.add((long) x.of(t, what));
            }
        }
        all.add((long) x.now(0));
        all.add((long) x.now(1));
        all.add((long) x.count(1));
    }

    static LeftTillCalled fresh() {
        return new LeftTillCalled();
    }

    /** Nobody has, earns or spends anything: only what a test gives them counts. */
    static LeftTillCalled poor() {
        LeftTillCalled x = new LeftTillCalled();
        for (int p = 0; p < 6; p++) {
            person(x, p, 0, 0, 0);
        }
        return x;
    }

    static void person(LeftTillCalled x, int p, int means, int earns, int spends) {
        x.person(p, 0, means);
        x.person(p, 1, earns);
        x.person(p, 2, spends);
    }

    static int left(LeftTillCalled x, int kind, int person, int due, int worth) {
        int t = x.thing(kind, person);
        x.set(t, 3, due);
        x.set(t, 4, worth);
        return t;
    }

    static void feedText(LeftTillCalled x, String all) {
        for (int i = 0; i < all.length(); i++) {
            x.feed(all.charAt(i), 1);
        }
    }

    static int tell(LeftTillCalled x, String all) {
        feedText(x, all);
        return x.station();
    }

    /** DAY n, with as few calls as it takes. */
    static void goTo(LeftTillCalled x, int day) {
        for (int left = day - x.now(0); left > 0; left -= Math.min(100, left)) {
            x.days(Math.min(100, left));
        }
    }

    /**
     * Five things, 0, 2 and 4 there, 1 WITH 1, 3 WITH 4 under another's LABEL; sheets of 8, 16 and 64
     * bits and one MISSING; bytes on THE TAPE; an image of an earlier day; some findings.
     */
    static LeftTillCalled rich() {
        LeftTillCalled x = poor();
        left(x, REGIMENT, 5, 31, 300);
        x.days(3);
        x.image();
        x.thing(LADY, 1);
        x.call(1);
        left(x, GLOVE, 2, 1000, 100);
        x.thing(WIFE, 4);
        x.call(3);
        x.set(3, 1, 2);
        x.set(3, 3, 12);
        left(x, HATBOX, 0, 40, 50);
        x.days(6);
        for (int p = 0; p < 6; p++) {
            person(x, p, 11 * p, p + 1, p + 2);
        }
        x.sheet(0, 8, 4);
        x.sheet(1, 16, 3);
        x.sheet(2, 64, 40);
        for (int i = 0; i < 3; i++) {
            x.write(0, i, 10 + i);
            x.write(1, i, 2000 + i);
            x.write(2, i, 70000 + i);
        }
        feedText(x, "lady for 3");
        x.count(-1);
        x.leave(0);
        return x;
    }

    /** As rich, with as many THINGS as there may be. */
    static LeftTillCalled full() {
        LeftTillCalled x = rich();
        for (int t = 5; t < 8; t++) {
            x.thing(PARCEL, t - 3);
        }
        return x;
    }
}
