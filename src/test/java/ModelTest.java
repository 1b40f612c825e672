import java.lang.reflect.Method;
import java.lang.reflect.Modifier;
import java.util.Map;
import java.util.Random;
import java.util.TreeMap;

/** Long runs of calls, by a seed, on the class and on Model: every answer must be the same. */
public final class ModelTest {
    private static final int RUNS = 1000;
    /** An object is used for at most 512 calls; the longest text and what is asked behind it make 123. */
    private static final int CALLS = 512 - 123;
    /** A run that is never made agrees with everything: each call must have been asked so often. */
    private static final int ASKED_AT_LEAST = 200;
    private static final String[] WORDS = {
        "parcel", "lady", "glove", "regiment", "wife", "hatbox", "means", "for", "due", "worth", "earns", "spends"
    };

    private final Random random;
    private final LeftTillCalled x = new LeftTillCalled();
    private final Model m = new Model();
    private final StringBuilder told = new StringBuilder();
    private static final Map<String, Integer> ASKED = new TreeMap<>();
    private final boolean isTight;
    private int made = 0;
    private boolean wrong = false;

    /** Seeds that are neighbours begin alike, so the numbers of runs are spread over all seeds. */
    private ModelTest(int run) {
        random = new Random(run * 0x9e3779b97f4a7c15L);
        isTight = run % 2 == 0;
    }

    public static void main(String[] args) {
        int wrongRuns = 0;
        for (int run = 0; run < RUNS && wrongRuns < 3; run++) {
            ModelTest test = new ModelTest(run);
            test.go();
            if (test.wrong) {
                wrongRuns++;
                System.out.println("run " + run + ":\n" + test.told);
            }
        }
        System.out.println(wrongRuns == 0 ? "class and model agree in " + RUNS + " runs" : "they differ");
        if (wrongRuns != 0 || !isAllAsked()) {
            System.exit(1);
        }
    }

    private static boolean isAllAsked() {
        boolean all = true;
        for (Method m : LeftTillCalled.class.getDeclaredMethods()) {
            int asked = ASKED.getOrDefault(m.getName(), 0);
            if (Modifier.isPublic(m.getModifiers()) && asked < ASKED_AT_LEAST) {
                System.out.println(m.getName() + " was asked only " + asked + " times");
                all = false;
            }
        }
        return all;
    }

    private void go() {
        if (isTight) {
            goTight();
            return;
        }
        int style = random.nextInt(4);
        for (int i = 0; i < CALLS && made < CALLS && !wrong; i++) {
            if (i < 20 || random.nextInt(3) == 0) {
                change(style);
            } else if (random.nextInt(12) == 0) {
                text();
            } else {
                anyCall(random.nextInt(39));
            }
        }
    }

    /** All there, and means just about what is due: here the best of several counts. */
    private void goTight() {
        int scale = 3 + random.nextInt(random.nextBoolean() ? 30 : 600);
        if (random.nextBoolean()) {
            days(1 + random.nextInt(40));
        }
        for (int p = 0; p < 6; p++) {
            person(p, 0, random.nextInt(3) == 0 ? 0 : random.nextInt(scale));
            person(p, 1, random.nextInt(7));
            person(p, 2, random.nextInt(7));
        }
        int many = 1 + random.nextInt(8);
        for (int t = 0; t < many; t++) {
            thing(random.nextInt(6), random.nextInt(random.nextBoolean() ? 2 : 6));
            set(t, 3, random.nextInt(scale));
            set(t, 4, random.nextInt(scale * (1 + random.nextInt(3))));
        }
        sheetAny(0, 64, 1 + random.nextInt(12));
        for (int i = 0; i < 40 && !wrong; i++) {
            askTight(random.nextInt(many), random.nextInt(6), 1 + random.nextInt(60));
        }
    }

    private void askTight(int t, int p, int n) {
        daysAndBest(12 + random.nextInt(12));
        is("first(" + p + ", " + n + ")", x.first(p, n), m.first(p, n));
        is("spend(" + t + ", " + p + ", " + n + ")", x.spend(t, p, n), m.spend(t, p, n));
        is("kind(" + t + ", " + p + ")", x.kind(t, p), m.kind(t, p));
        switch (random.nextInt(6)) {
            case 0: days(1 + random.nextInt(5)); break;
            case 1: set(t, 3, random.nextInt(300)); break;
            case 2: person(p, 0, random.nextInt(300)); break;
            case 3: bookAndRead(0, t); break;
            case 4: leave(t); break;
            default: turn(t, p); break;
        }
    }

    private void is(String call, long got, long want) {
        made++;
        ASKED.merge(call.substring(0, call.indexOf('(')), 1, Integer::sum);
        told.append(call).append(" answered ").append(got).append('\n');
        if (got != want) {
            told.append("   but the model says ").append(want).append('\n');
            wrong = true;
        }
    }

    /** From a to b, now and then just outside or far outside. */
    private int from(int a, int b) {
        switch (random.nextInt(40)) {
            case 0: return a - 1;
            case 1: return b + 1;
            case 2: return random.nextInt();
            case 3: return random.nextBoolean() ? Integer.MIN_VALUE : Integer.MAX_VALUE;
            case 4: return a;
            case 5: return b;
            default: return a + random.nextInt(b - a + 1);
        }
    }

    private int someThing() {
        int many = m.w.things.size();
        return many == 0 ? from(0, 1) : from(0, many - 1);
    }

    private int pence(int style, int most) {
        int[] tops = {20, 200, 2000, most};
        return random.nextInt(10) == 0 ? from(0, most) : random.nextInt(Math.min(most, tops[style]) + 1);
    }

    /** The calls that make a station worth asking about. */
    private void change(int style) {
        switch (random.nextInt(9)) {
            case 0: person(from(0, 5), 0, pence(style, 999999)); break;
            case 1: person(from(0, 5), 1, random.nextBoolean() ? random.nextInt(12) : from(0, 999)); break;
            case 2: person(from(0, 5), 2, random.nextBoolean() ? random.nextInt(12) : from(0, 999)); break;
            case 3: thing(from(0, 5), from(0, 5)); break;
            case 4: set(someThing(), 3, pence(style, 999999)); break;
            case 5: set(someThing(), 4, pence(Math.min(style, 2), 9999)); break;
            case 6: leave(someThing()); break;
            case 7: turn(someThing(), from(0, 5)); break;
            default: days(random.nextInt(10) == 0 ? from(1, 100) : 1 + random.nextInt(9)); break;
        }
    }

    private void person(int a, int b, int c) {
        is("person(" + a + ", " + b + ", " + c + ")", x.person(a, b, c), m.person(a, b, c));
    }

    private void thing(int a, int b) {
        is("thing(" + a + ", " + b + ")", x.thing(a, b), m.thing(a, b));
    }

    private void set(int a, int b, int c) {
        is("set(" + a + ", " + b + ", " + c + ")", x.set(a, b, c), m.set(a, b, c));
    }

    private void leave(int a) {
        is("leave(" + a + ")", x.leave(a), m.leave(a));
    }

    private void turn(int a, int b) {
        is("turn(" + a + ", " + b + ")", x.turn(a, b), m.turn(a, b));
    }

    private void days(int n) {
        is("days(" + n + ")", x.days(n), m.days(n));
    }

    private void text() {
        StringBuilder all = new StringBuilder();
        int items = 1 + random.nextInt(4);
        for (int i = 0; i < items; i++) {
            all.append(i == 0 ? "" : random.nextInt(15) == 0 ? " " : ";").append(blank());
            item(all);
        }
        for (int i = 0; i < all.length(); i++) {
            if (random.nextInt(150) == 0) {
                all.setCharAt(i, (char) random.nextInt(256));
            }
        }
        feedAll(all.toString());
        is("station() of '" + all + "'", x.station(), m.station());
        is("count(1)", x.count(1), m.count(1));
    }

    private String blank() {
        return random.nextInt(4) == 0 ? "  " : "";
    }

    private void item(StringBuilder all) {
        if (random.nextInt(20) == 0) {
            all.append(WORDS[random.nextInt(WORDS.length)]);
        } else if (random.nextInt(3) == 0) {
            all.append("means ").append(from(0, 5)).append(' ').append(from(0, 9999));
            clause(all, "earns", 999);
            clause(all, "spends", 999);
        } else {
            all.append(WORDS[random.nextInt(6)]);
            clause(all, "for", 5);
            clause(all, "due", 9999);
            clause(all, "worth", 9999);
        }
    }

    private void clause(StringBuilder all, String word, int most) {
        if (random.nextBoolean()) {
            all.append(' ').append(word).append(blank());
            all.append(random.nextInt(9) == 0 ? "00" : "").append(from(0, most));
        }
    }

    private void feedAll(String all) {
        int at = 0;
        while (at < all.length()) {
            int n = Math.min(1 + random.nextInt(4), all.length() - at);
            int bytes = random.nextInt();
            for (int i = 0; i < n; i++) {
                bytes = bytes << 8 | all.charAt(at + i);
            }
            is("feed(" + bytes + ", " + n + ")", x.feed(bytes, n), m.feed(bytes, n));
            at += n;
        }
    }

    private long number() {
        switch (random.nextInt(5)) {
            case 0: return random.nextLong();
            case 1: return random.nextInt();
            case 2: return random.nextInt(1100000) - 50000;
            default: return random.nextInt(400) - 50;
        }
    }

    private void anyCall(int which) {
        if (which < 11) {
            peopleAndThings(which);
        } else if (which < 25) {
            daysAndBest(which);
        } else {
            textsSheetsImages(which);
        }
    }

    private void peopleAndThings(int which) {
        int t = someThing();
        int p = from(0, 5);
        int what = from(0, 8);
        switch (which) {
            case 0: person(p, from(0, 2), from(0, 999)); break;
            case 1: is("personOf(" + p + ", " + what + ")", x.personOf(p, what), m.personOf(p, what)); break;
            case 2: thing(from(0, 5), p); break;
            case 3: is("of(" + t + ", " + what + ")", x.of(t, what), m.of(t, what)); break;
            case 4: set(t, from(1, 4), from(0, 5)); break;
            case 5: turn(t, p); break;
            case 6: is("as(" + t + ", " + p + ")", x.as(t, p), m.as(t, p)); break;
            case 7: is("bid(" + t + ", " + p + ")", x.bid(t, p), m.bid(t, p)); break;
            case 8: is("call(" + t + ")", x.call(t), m.call(t)); break;
            case 9: leave(t); break;
            default: days(from(1, 100)); break;
        }
    }

    private void daysAndBest(int which) {
        int t = someThing();
        int p = from(0, 5);
        int n = random.nextInt(3) == 0 ? 1 + random.nextInt(8) : random.nextInt(4) == 0 ? from(0, 100) : from(1, 60);
        switch (which) {
            case 11: is("now(" + p + ")", x.now(p), m.now(p)); break;
            case 12: onAny(t, n, from(0, 1)); break;
            case 13: is("means(" + p + ", " + n + ")", x.means(p, n), m.means(p, n)); break;
            case 14: is("gone(" + t + ")", x.gone(t), m.gone(t)); break;
            case 15: is("comes(" + t + ", " + p + ")", x.comes(t, p), m.comes(t, p)); break;
            case 16: is("empty()", x.empty(), m.empty()); break;
            case 17: enoughNowAndThen(t, p, n); break;
            case 18: is("spend(" + t + ", " + p + ", " + n + ")", x.spend(t, p, n), m.spend(t, p, n)); break;
            case 19: is("kind(" + t + ", " + p + ")", x.kind(t, p), m.kind(t, p)); break;
            case 20: is("label(" + t + ")", x.label(t), m.label(t)); break;
            case 21: is("first(" + p + ", " + n + ")", x.first(p, n), m.first(p, n)); break;
            case 22: worthNowAndThen(t, n); break;
            case 23: is("most(" + n + ")", x.most(n), m.most(n)); break;
            default: is("count(" + p + ")", x.count(p), m.count(p)); break;
        }
    }

    private void onAny(int t, int n, int what) {
        is("on(" + t + ", " + n + ", " + what + ")", x.on(t, n, what), m.on(t, n, what));
    }

    /** The model tries a thousand stations for each, so these are asked less often. */
    private void enoughNowAndThen(int t, int p, int n) {
        if (random.nextInt(3) == 0) {
            is("enough(" + t + ", " + p + ", " + n + ")", x.enough(t, p, n), m.enough(t, p, n));
        }
    }

    private void worthNowAndThen(int t, int n) {
        if (random.nextInt(3) == 0) {
            is("worth(" + t + ", " + n + ")", x.worth(t, n), m.worth(t, n));
        }
    }

    private void textsSheetsImages(int which) {
        int s = from(0, 3);
        int t = someThing();
        switch (which) {
            case 25: is("wipe()", x.wipe(), m.wipe()); break;
            case 26: feedSome(random.nextInt(), from(1, 4)); break;
            case 27: is("station()", x.station(), m.station()); break;
            case 28:
            case 29: sheetAny(s, new int[] {0, 8, 16, 16, 64, 64, 7}[random.nextInt(7)], from(0, 40)); break;
            case 30:
            case 31: writeAny(s, from(0, 10), number()); break;
            case 32: copyAny(s, from(0, 3)); break;
            case 33: is("lays(" + s + ")", x.lays(s), m.lays(s)); break;
            case 34: bookAndRead(s, t); break;
            case 35: is("image()", x.image(), m.image()); break;
            case 36: is("undo()", x.undo(), m.undo()); break;
            case 37: tearSeldom(); break;
            default: statusAny(from(-1, 6)); break;
        }
    }

    private void feedSome(int bytes, int n) {
        is("feed(" + bytes + ", " + n + ")", x.feed(bytes, n), m.feed(bytes, n));
    }

    private void sheetAny(int s, int bits, int n) {
        is("sheet(" + s + ", " + bits + ", " + n + ")", x.sheet(s, bits, n), m.sheet(s, bits, n));
    }

    private void writeAny(int s, int i, long v) {
        is("write(" + s + ", " + i + ", " + v + ")", x.write(s, i, v), m.write(s, i, v));
        is("write(" + s + ", " + i + ", " + v + ")", x.write(s, i, v), m.write(s, i, v));
    }

    private void copyAny(int s, int t) {
        int a = from(0, 20);
        int b = from(0, 20);
        int n = from(0, 20);
        String call = "copy(" + s + ", " + a + ", " + t + ", " + b + ", " + n + ")";
        is(call, x.copy(s, a, t, b, n), m.copy(s, a, t, b, n));
    }

    private void bookAndRead(int s, int t) {
        if (random.nextInt(4) != 0) {
            is("book(" + s + ", " + t + ")", x.book(s, t), m.book(s, t));
        }
        if (random.nextInt(4) == 0) {
            writeAny(s, from(0, 10), number());
        }
        is("read(" + s + ", " + t + ")", x.read(s, t), m.read(s, t));
    }

    private void tearSeldom() {
        if (random.nextInt(4) == 0) {
            is("tear()", x.tear(), m.tear());
        }
    }

    private void statusAny(int which) {
        is("status(" + which + ")", x.status(which), m.status(which));
    }
}
