/** For each promise of the document calls with the answers that are due, worked out by hand. */
public final class PromisesTest {
    private static final int BEYOND = -1000000001;
    private static final int FULL = -1000000002;
    private static final int KIND = -1000000003;
    private static final int NONE = -1000000004;
    private static final int STATE = -1000000005;
    private static final int MISSING = -1000000006;
    private static final int SIZE = -1000000007;
    private static final int LEAST = Integer.MIN_VALUE;
    private static final int GREATEST = Integer.MAX_VALUE;

    private static final int PARCEL = 0;
    private static final int LADY = 1;
    private static final int GLOVE = 2;
    private static final int REGIMENT = 3;
    private static final int WIFE = 4;
    private static final int HATBOX = 5;

    private static int wrong = 0;
    private static int promise = 0;

    private static void due(String what, long got, long want) {
        if (got != want) {
            wrong++;
            System.out.println("promise " + promise + ": " + what + " is " + got + ", due is " + want);
        }
    }

    /** Nobody has, earns or spends anything: only what a test gives them counts. */
    private static LeftTillCalled poor() {
        LeftTillCalled x = new LeftTillCalled();
        for (int p = 0; p < 6; p++) {
            means(x, p, 0, 0, 0);
        }
        return x;
    }

    private static void means(LeftTillCalled x, int p, int means, int earns, int spends) {
        x.person(p, 0, means);
        x.person(p, 1, earns);
        x.person(p, 2, spends);
    }

    private static int left(LeftTillCalled x, int kind, int person, int due, int worth) {
        int t = x.thing(kind, person);
        x.set(t, 3, due);
        x.set(t, 4, worth);
        return t;
    }

    private static void feedText(LeftTillCalled x, String all) {
        for (int i = 0; i < all.length(); i++) {
            x.feed(all.charAt(i), 1);
        }
    }

    private static int told(LeftTillCalled x, String all) {
        feedText(x, all);
        return x.station();
    }

    public static void main(String[] args) {
        newObject();
        person();
        personOf();
        thing();
        ofMounts();
        ofSold();
        set();
        turn();
        as();
        bid();
        call();
        leave();
        days();
        daysCalls();
        daysSales();
        daysEnds();
        now();
        on();
        means();
        gone();
        comes();
        empty();
        enough();
        spend();
        kind();
        label();
        first();
        worth();
        most();
        feed();
        wipe();
        stationItems();
        stationFaults();
        stationChangesNothing();
        sheet();
        write();
        copy();
        lays();
        book();
        read();
        image();
        undo();
        tear();
        count();
        status();
        System.out.println(wrong == 0 ? "all promises hold" : wrong + " answers are not as due");
        if (wrong != 0) {
            System.exit(1);
        }
    }

    private static void newObject() {
        promise = 1;
        LeftTillCalled x = new LeftTillCalled();
        due("THINGS", x.count(0), 0);
        due("bytes of THE TAPE", x.count(1), 0);
        due("DAY", x.now(0), 0);
        due("TAKEN", x.now(1), 0);
        due("those there", x.now(2), 0);
        due("findings", x.status(-1), 0);
        for (int p = 0; p < 6; p++) {
            due("MEANS", x.personOf(p, 0), 100);
            due("EARNS", x.personOf(p, 1), 10);
            due("SPENDS", x.personOf(p, 2), 5);
        }
        due("tear", x.tear(), 0);
        due("undo", x.undo(), NONE);
        for (int s = 0; s < 4; s++) {
            due("a sheet at first", x.write(s, 0, 1), MISSING);
        }
        due("findings then", x.status(-1), 5);
        LeftTillCalled y = new LeftTillCalled();
        due("another object is another", y.thing(0, 0), 0);
        due("the first still has no THINGS", x.count(0), 0);
    }

    private static void person() {
        promise = 2;
        LeftTillCalled x = new LeftTillCalled();
        due("MEANS was", x.person(5, 0, 999999), 100);
        due("MEANS was then", x.person(5, 0, 0), 999999);
        due("EARNS was", x.person(0, 1, 999), 10);
        due("EARNS was then", x.person(0, 1, 0), 999);
        due("SPENDS was", x.person(3, 2, 999), 5);
        due("SPENDS was then", x.person(3, 2, 0), 999);
        int[][] wrongs = {
            {-1, 0, 0}, {6, 0, 0}, {LEAST, 0, 0}, {GREATEST, 0, 0}, {0, -1, 0}, {0, 3, 0}, {0, GREATEST, 0},
            {0, 0, -1}, {0, 0, 1000000}, {0, 1, -1}, {0, 1, 1000}, {0, 2, -1}, {0, 2, 1000}, {0, 0, LEAST}
        };
        for (int[] w : wrongs) {
            due("a wrong one", x.person(w[0], w[1], w[2]), BEYOND);
        }
        due("findings", x.status(0), wrongs.length);
        due("MEANS of 0", x.personOf(0, 0), 100);
        due("EARNS of 0", x.personOf(0, 1), 0);
        due("SPENDS of 0", x.personOf(0, 2), 5);
    }

    private static void personOf() {
        promise = 3;
        LeftTillCalled x = new LeftTillCalled();
        means(x, 2, 777, 88, 9);
        due("MEANS", x.personOf(2, 0), 777);
        due("EARNS", x.personOf(2, 1), 88);
        due("SPENDS", x.personOf(2, 2), 9);
        due("no LABELS", x.personOf(2, 3), 0);
        x.thing(PARCEL, 2);
        x.thing(PARCEL, 1);
        x.thing(PARCEL, 2);
        x.thing(PARCEL, 2);
        due("LABELS", x.personOf(2, 3), 1 + 4 + 8);
        due("LABELS of another", x.personOf(1, 3), 2);
        due("WITH him", x.personOf(2, 4), 0);
        x.call(3);
        x.call(0);
        due("WITH him then", x.personOf(2, 4), 1 + 8);
        due("LABELS then", x.personOf(2, 3), 1 + 4 + 8);
        x.set(3, 1, 5);
        due("WITH him under another's LABEL", x.personOf(2, 4), 1 + 8);
        due("another's LABEL", x.personOf(5, 3), 8);
        due("WITH another", x.personOf(5, 4), 0);
        int[][] wrongs = {{-1, 0}, {6, 0}, {0, -1}, {0, 5}, {LEAST, 3}, {0, GREATEST}};
        for (int[] w : wrongs) {
            due("a wrong one", x.personOf(w[0], w[1]), BEYOND);
        }
        due("findings", x.status(0), wrongs.length);
    }

    private static void thing() {
        promise = 4;
        LeftTillCalled x = new LeftTillCalled();
        x.days(3);
        due("a wrong kind", x.thing(6, 0), BEYOND);
        due("a wrong kind", x.thing(-1, 0), BEYOND);
        due("a wrong person", x.thing(0, 6), BEYOND);
        due("a wrong person", x.thing(0, -1), BEYOND);
        due("none came", x.count(0), 0);
        for (int i = 0; i < 8; i++) {
            int kind = i % 6;
            due("its number", x.thing(kind, 5 - kind), i);
            due("KIND", x.of(i, 0), kind);
            due("LABEL", x.of(i, 1), 5 - kind);
            due("LEFT", x.of(i, 2), 3);
            due("DUE", x.of(i, 3), 0);
            due("WORTH", x.of(i, 4), 100);
            due("WITH", x.of(i, 5), -1);
        }
        due("a 9th", x.thing(0, 0), FULL);
        due("BEYOND is asked first", x.thing(6, 0), BEYOND);
        due("BEYOND is asked first", x.thing(0, 6), BEYOND);
        due("THINGS", x.count(0), 8);
        due("FULL", x.status(1), 1);
        due("BEYOND", x.status(0), 6);
    }

    private static void ofMounts() {
        promise = 5;
        LeftTillCalled x = poor();
        for (int k = 0; k < 6; k++) {
            left(x, k, 0, 1, 9000);
        }
        x.set(REGIMENT, 4, 299);
        int[][] mounts = {
            {0, 2, 6, 1, 4, 6, 2}, {1, 2, 6, 0, 4, 6, 1}, {7, 2, 6, 1, 4, 6, 2}, {1, 2, 6, 0, 4, 6, 1},
            {1, 2, 6, 1, 4, 7, 2}, {19, 2, 6, 0, 4, 8, 1}, {71, 2, 6, 1, 4, 16, 2}
        };
        int d = 0;
        for (int[] m : mounts) {
            if (m[0] > 0) {
                x.days(m[0]);
                d += m[0];
            }
            for (int k = 0; k < 6; k++) {
                due("MOUNTS of " + k + " after " + d, x.of(k, 6), m[1 + k]);
            }
        }
        x.set(REGIMENT, 4, 9999);
        due("MOUNTS of a dear regiment", x.of(REGIMENT, 6), 101);
        x.set(REGIMENT, 4, 99);
        due("MOUNTS of a cheap one", x.of(REGIMENT, 6), 2);
        due("LEFT", x.of(0, 2), 0);
        x.days(1);
        left(x, WIFE, 0, 1, 9000);
        left(x, GLOVE, 0, 1, 9000);
        x.days(8);
        due("MOUNTS of a later wife", x.of(6, 6), 6);
        due("MOUNTS of a later glove", x.of(7, 6), 1);
        x.days(1);
        due("MOUNTS of a later glove then", x.of(7, 6), 0);
        x.days(1);
        due("MOUNTS of a later wife then", x.of(6, 6), 7);
        due("no such thing", x.of(8, 0), BEYOND);
        due("no such thing", x.of(-1, 0), BEYOND);
        due("no such what", x.of(0, 8), BEYOND);
        due("no such what", x.of(0, -1), BEYOND);
        due("findings", x.status(-1), 4);
    }

    private static void ofSold() {
        promise = 5;
        LeftTillCalled x = poor();
        for (int k = 0; k < 6; k++) {
            left(x, k, 0, 101, 101);
        }
        int[] atWorth = {0, 0, 1, 0, 0, 1};
        int[] aboveWorth = {1, 1, 1, 0, 0, 1};
        int[] afterThirty = {1, 1, 1, 0, 1, 1};
        int[] atHalf = {0, 0, 0, 0, 0, 0};
        int[] aboveHalf = {0, 0, 1, 0, 0, 1};
        soldIs(x, 101, atWorth);
        soldIs(x, 102, aboveWorth);
        soldIs(x, 50, atHalf);
        soldIs(x, 51, aboveHalf);
        x.days(29);
        soldIs(x, 102, aboveWorth);
        x.days(1);
        soldIs(x, 102, afterThirty);
        soldIs(x, 101, atWorth);
        x.person(0, 0, 999);
        x.call(0);
        due("WITH", x.of(0, 5), 0);
        x.set(0, 3, 102);
        due("SOLD asks not whether it is there", x.of(0, 7), 1);
    }

    private static void soldIs(LeftTillCalled x, int v, int[] want) {
        for (int k = 0; k < 6; k++) {
            x.set(k, 3, v);
            due("SOLD of " + k + " with DUE " + v, x.of(k, 7), want[k]);
        }
    }

    private static void set() {
        promise = 6;
        LeftTillCalled x = new LeftTillCalled();
        x.thing(WIFE, 2);
        due("LABEL was", x.set(0, 1, 5), 2);
        due("LABEL was then", x.set(0, 1, 0), 5);
        due("DUE was", x.set(0, 3, 999999), 0);
        due("DUE was then", x.set(0, 3, 7), 999999);
        due("WORTH was", x.set(0, 4, 9999), 100);
        due("WORTH was then", x.set(0, 4, 0), 9999);
        int[][] wrongs = {
            {-1, 1, 0}, {1, 1, 0}, {GREATEST, 1, 0}, {0, 0, 0}, {0, 2, 0}, {0, 5, 0}, {0, -1, 0}, {0, LEAST, 0},
            {0, 1, -1}, {0, 1, 6}, {0, 3, -1}, {0, 3, 1000000}, {0, 4, -1}, {0, 4, 10000}
        };
        for (int[] w : wrongs) {
            due("a wrong one", x.set(w[0], w[1], w[2]), BEYOND);
        }
        due("findings", x.status(0), wrongs.length);
        due("LABEL", x.of(0, 1), 0);
        due("DUE", x.of(0, 3), 7);
        due("WORTH", x.of(0, 4), 0);
        due("WITH", x.of(0, 5), -1);
        x.call(0);
        due("one that isn't there", x.set(0, 3, 44), 0);
        due("its DUE", x.of(0, 3), 44);
    }

    private static void turn() {
        promise = 7;
        LeftTillCalled x = new LeftTillCalled();
        x.thing(REGIMENT, 1);
        x.set(0, 3, 12);
        due("it was", x.turn(0, WIFE), REGIMENT);
        due("KIND", x.of(0, 0), WIFE);
        due("DUE", x.of(0, 3), 12);
        due("LABEL", x.of(0, 1), 1);
        due("MOUNTS", x.of(0, 6), 6);
        due("it was", x.turn(0, WIFE), WIFE);
        due("it was", x.turn(0, PARCEL), WIFE);
        due("no such kind", x.turn(0, 6), BEYOND);
        due("no such kind", x.turn(0, -1), BEYOND);
        due("no such thing", x.turn(1, 0), BEYOND);
        due("no such thing", x.turn(-1, 0), BEYOND);
        due("KIND", x.of(0, 0), PARCEL);
        due("findings", x.status(0), 4);
    }

    private static void as() {
        promise = 8;
        LeftTillCalled x = new LeftTillCalled();
        boolean[][] is = {
            {true, false, false, false, false, false},
            {true, true, false, false, false, false},
            {true, false, true, false, false, false},
            {true, false, false, true, false, false},
            {true, true, false, false, true, false},
            {true, false, true, false, false, true}
        };
        int kinds = 0;
        for (int k = 0; k < 6; k++) {
            left(x, k, 0, 70 + k, 100);
            for (int as = 0; as < 6; as++) {
                due("as(" + k + ", " + as + ")", x.as(k, as), is[k][as] ? 70 + k : KIND);
                kinds += is[k][as] ? 0 : 1;
            }
        }
        due("no such thing", x.as(6, 0), BEYOND);
        due("no such thing", x.as(-1, 1), BEYOND);
        due("no such kind", x.as(0, 6), BEYOND);
        due("no such kind", x.as(0, -1), BEYOND);
        due("KIND", x.status(2), kinds);
        due("BEYOND", x.status(0), 4);
    }

    private static void bid() {
        promise = 9;
        LeftTillCalled x = new LeftTillCalled();
        for (int k = 0; k < 6; k++) {
            left(x, k, 0, 0, 301);
        }
        int[][] bids = {
            {999999, 150, 10149, 150, 0, 20298, 155}, {1099, 150, 160, 150, 0, 320, 155},
            {299, 150, 152, 150, 0, 299, 155}, {152, 150, 151, 150, 0, 152, 152}, {150, 150, 150, 150, 0, 150, 150},
            {149, 149, 149, 149, 0, 149, 149}, {0, 0, 0, 0, 0, 0, 0}
        };
        for (int[] b : bids) {
            x.person(3, 0, b[0]);
            for (int k = 0; k < 6; k++) {
                due("BID of " + b[0] + " for " + k, x.bid(k, 3), b[1 + k]);
            }
        }
        due("whose LABEL it bears", x.bid(PARCEL, 0), 100);
        x.call(PARCEL);
        due("for one that isn't there", x.bid(PARCEL, 1), 100);
        x.set(HATBOX, 4, 0);
        due("for a worthless hatbox", x.bid(HATBOX, 1), 5);
        due("no such thing", x.bid(6, 0), BEYOND);
        due("no such thing", x.bid(-1, 0), BEYOND);
        due("no such person", x.bid(0, 6), BEYOND);
        due("no such person", x.bid(0, -1), BEYOND);
        due("findings", x.status(0), 4);
    }

    private static void call() {
        promise = 10;
        LeftTillCalled x = new LeftTillCalled();
        left(x, LADY, 4, 100, 50);
        left(x, LADY, 4, 1, 50);
        due("paid", x.call(0), 100);
        due("MEANS", x.personOf(4, 0), 0);
        due("TAKEN", x.now(1), 100);
        due("DUE", x.of(0, 3), 0);
        due("WITH", x.of(0, 5), 4);
        due("LABEL", x.of(0, 1), 4);
        due("again", x.call(0), STATE);
        due("MEANS below DUE", x.call(1), STATE);
        due("it is there", x.of(1, 5), -1);
        x.set(1, 3, 0);
        due("for nothing", x.call(1), 0);
        due("no such thing", x.call(2), BEYOND);
        due("no such thing", x.call(-1), BEYOND);
        due("STATE", x.status(4), 2);
        due("BEYOND", x.status(0), 2);
        LeftTillCalled y = new LeftTillCalled();
        y.thing(PARCEL, 0);
        for (int i = 0; i < 101; i++) {
            y.set(0, 3, 999999);
            y.person(0, 0, 999999);
            due("paid", y.call(0), 999999);
            y.leave(0);
        }
        due("TAKEN is held", y.now(1), 99999999);
    }

    private static void leave() {
        promise = 11;
        LeftTillCalled x = poor();
        left(x, WIFE, 1, 0, 250);
        due("it is there", x.leave(0), STATE);
        x.call(0);
        x.days(5);
        x.set(0, 3, 66);
        x.set(0, 1, 3);
        due("who", x.leave(0), 1);
        due("LABEL", x.of(0, 1), 1);
        due("LEFT", x.of(0, 2), 5);
        due("DUE", x.of(0, 3), 0);
        due("WORTH", x.of(0, 4), 250);
        due("WITH", x.of(0, 5), -1);
        due("KIND", x.of(0, 0), WIFE);
        due("again", x.leave(0), STATE);
        due("no such thing", x.leave(1), BEYOND);
        due("no such thing", x.leave(-1), BEYOND);
        due("STATE", x.status(4), 2);
        due("BEYOND", x.status(0), 2);
    }

    private static void days() {
        promise = 12;
        LeftTillCalled x = poor();
        for (int k = 0; k < 6; k++) {
            left(x, k, 0, 10, 299);
        }
        due("those there", x.days(1), 63);
        int[] first = {12, 16, 11, 14, 16, 12};
        for (int k = 0; k < 6; k++) {
            due("DUE of " + k, x.of(k, 3), first[k]);
        }
        x.days(10);
        int[] eleventh = {32, 76, 16, 54, 10 + 6 * 11 + 1, 10 + 6 + 11};
        for (int k = 0; k < 6; k++) {
            due("DUE of " + k + " then", x.of(k, 3), eleventh[k]);
        }
        due("DAY", x.now(0), 11);
        x.set(0, 3, 999998);
        x.days(1);
        due("DUE is held", x.of(0, 3), 999999);
        means(x, 1, 999999, 999, 999);
        means(x, 2, 3, 4, 9);
        means(x, 3, 3, 6, 9);
        means(x, 4, 3, 8, 9);
        x.days(1);
        due("earned first, and held", x.personOf(1, 0), 999000);
        due("0 at least", x.personOf(2, 0), 0);
        due("to the penny", x.personOf(3, 0), 0);
        due("earned, then spent", x.personOf(4, 0), 2);
        due("too few", x.days(0), BEYOND);
        due("too few", x.days(-1), BEYOND);
        due("too many", x.days(101), BEYOND);
        due("DAY", x.now(0), 13);
        due("findings", x.status(0), 3);
    }

    private static void daysCalls() {
        promise = 12;
        LeftTillCalled x = poor();
        left(x, PARCEL, 0, 10, 9999);
        x.person(0, 0, 11);
        due("DUE mounts first", x.days(1), 1);
        x.set(0, 3, 9);
        due("as much as that", x.days(1), 0);
        due("MEANS", x.personOf(0, 0), 0);
        due("TAKEN", x.now(1), 11);
        due("WITH", x.of(0, 5), 0);
        due("DUE", x.of(0, 3), 0);
        x.days(9);
        due("DUE of one that isn't there mounts not", x.of(0, 3), 0);

        x = poor();
        left(x, PARCEL, 3, 100, 9999);
        left(x, PARCEL, 3, 20, 9999);
        left(x, PARCEL, 1, 0, 9999);
        left(x, PARCEL, 3, 5, 9999);
        means(x, 3, 50, 2, 0);
        means(x, 1, 1, 2, 0);
        due("one a day, the least that he can", x.days(1), 1 + 8);
        due("MEANS", x.personOf(3, 0), 30);
        due("another's", x.personOf(1, 0), 1);
        due("the next", x.days(1), 1);
        due("MEANS", x.personOf(3, 0), 23);
        due("TAKEN", x.now(1), 22 + 2 + 9);

        x = poor();
        left(x, PARCEL, 2, 0, 9999);
        means(x, 2, 0, 5, 4);
        due("spent before the call", x.days(1), 1);
        x.person(2, 0, 2);
        due("earned before the call", x.days(1), 1);
        x.person(2, 2, 2);
        x.set(0, 3, 4);
        due("earned before the call", x.days(1), 0);
        due("MEANS", x.personOf(2, 0), 0);
    }

    private static void daysSales() {
        promise = 12;
        LeftTillCalled x = poor();
        left(x, PARCEL, 0, 300, 100);
        left(x, PARCEL, 2, 300, 100);
        left(x, GLOVE, 0, 46, 100);
        left(x, GLOVE, 0, 47, 100);
        left(x, PARCEL, 0, 86, 100);
        left(x, PARCEL, 0, 87, 100);
        left(x, REGIMENT, 0, 9999, 100);
        left(x, WIFE, 0, 9999, 100);
        x.person(2, 0, 110);
        x.person(4, 0, 49);
        due("no sale before the seventh", x.days(6), 255);
        due("a sale", x.days(1), 4 + 16 + 64 + 128);
        due("who offers most", x.of(0, 5), 2);
        due("LABEL", x.of(0, 1), 2);
        due("DUE", x.of(0, 3), 0);
        due("LEFT stays", x.of(0, 2), 0);
        due("not whose LABEL it bears", x.of(1, 5), 4);
        due("above half", x.of(3, 5), 2);
        due("above WORTH, for what is left", x.of(5, 5), 2);
        due("MEANS", x.personOf(2, 0), 0);
        due("MEANS", x.personOf(4, 0), 0);
        due("TAKEN", x.now(1), 110 + 49);
        due("nobody offers above 0", x.days(7), 4 + 16 + 64 + 128);

        x = poor();
        x.days(5);
        left(x, WIFE, 0, 9999, 100);
        x.days(1);
        left(x, WIFE, 0, 9999, 100);
        left(x, PARCEL, 5, 9999, 100);
        x.person(1, 0, 60);
        x.person(3, 0, 60);
        x.person(5, 0, 60);
        due("of several the least", x.days(1), 3);
        due("WITH", x.of(2, 5), 1);
        x.person(1, 0, 60);
        due("a wife stays thirty days", x.days(27), 3);
        due("and not longer", x.days(1), 2);
        due("WITH", x.of(0, 5), 1);
        due("TAKEN", x.now(1), 50 + 60);

        x = poor();
        left(x, PARCEL, 0, 300, 100);
        means(x, 0, 314, 0, 0);
        x.person(1, 0, 999);
        x.days(1);
        due("who can calls before a sale", x.of(0, 5), 0);
    }

    private static void daysEnds() {
        promise = 12;
        LeftTillCalled x = poor();
        left(x, PARCEL, 0, 1, 0);
        for (int i = 0; i < 99; i++) {
            x.days(100);
        }
        due("too far", x.days(100), STATE);
        due("BEYOND is asked first", x.days(101), BEYOND);
        due("DAY", x.now(0), 9900);
        due("to the last", x.days(99), 1);
        due("DAY", x.now(0), 9999);
        due("one more", x.days(1), STATE);
        due("DAY", x.now(0), 9999);
        due("STATE", x.status(4), 2);
        due("ON goes on", x.on(0, 100, 0), 1 + 2 * 10099);
        due("a thing LEFT late", x.thing(PARCEL, 0), 1);
        due("LEFT", x.of(1, 2), 9999);
    }

    private static void now() {
        promise = 13;
        LeftTillCalled x = poor();
        left(x, PARCEL, 0, 102, 100);
        left(x, PARCEL, 0, 100, 100);
        left(x, GLOVE, 0, 51, 100);
        left(x, WIFE, 0, 999999, 100);
        left(x, PARCEL, 1, 7, 100);
        due("DAY", x.now(0), 0);
        due("there", x.now(2), 31);
        due("DUE together", x.now(3), 102 + 100 + 51 + 999999 + 7);
        due("for sale", x.now(5), 1 + 4);
        x.person(1, 0, 20);
        x.person(5, 0, 999999);
        x.person(0, 0, 3);
        due("MEANS together", x.now(4), 3 + 20 + 999999);
        x.person(0, 0, 0);
        x.call(4);
        x.set(4, 3, 500);
        due("TAKEN", x.now(1), 7);
        due("there then", x.now(2), 15);
        due("DUE together then", x.now(3), 102 + 100 + 51 + 999999);
        due("for sale then", x.now(5), 1 + 4);
        x.set(0, 3, 100);
        due("for sale at last", x.now(5), 4);
        x.person(5, 0, 0);
        x.days(2);
        due("DAY then", x.now(0), 2);
        due("MEANS together then", x.now(4), 13);
        left(x, GLOVE, 0, 3, 9);
        left(x, GLOVE, 0, 4, 9);
        left(x, GLOVE, 0, 5, 9);
        due("there, of eight", x.now(2), 255 - 16);
        due("for sale, of eight", x.now(5), 1 + 2 + 4 + 128);
        due("DUE together, of eight", x.now(3), 104 + 104 + 52 + 999999 + 3 + 4 + 5);
        due("no such what", x.now(6), BEYOND);
        due("no such what", x.now(-1), BEYOND);
        due("findings", x.status(0), 2);
    }

    private static void on() {
        promise = 14;
        LeftTillCalled x = poor();
        left(x, PARCEL, 0, 10, 9);
        x.person(3, 0, 50);
        due("DUE now", x.on(0, 0, 0), 10);
        due("WITH now", x.on(0, 0, 1), -1);
        due("DUE on 6", x.on(0, 6, 0), 22);
        due("WITH on 6", x.on(0, 6, 1), -1);
        due("DUE on 7", x.on(0, 7, 0), 0);
        due("WITH on 7", x.on(0, 7, 1), 3);
        due("WITH on 100", x.on(0, 100, 1), 3);
        due("nothing changes", x.now(0), 0);
        due("nothing changes", x.of(0, 5), -1);
        due("nothing changes", x.of(0, 3), 10);
        due("nothing changes", x.personOf(3, 0), 50);
        int[][] wrongs = {{1, 0, 0}, {-1, 0, 0}, {0, -1, 0}, {0, 101, 0}, {0, 0, 2}, {0, 0, -1}, {0, GREATEST, 1}};
        for (int[] w : wrongs) {
            due("a wrong one", x.on(w[0], w[1], w[2]), BEYOND);
        }
        due("findings", x.status(0), wrongs.length);
    }

    private static void means() {
        promise = 15;
        LeftTillCalled x = new LeftTillCalled();
        due("now", x.means(0, 0), 100);
        due("on 1", x.means(0, 1), 105);
        due("on 100", x.means(5, 100), 600);
        x.thing(PARCEL, 0);
        due("less what he pays", x.means(0, 1), 103);
        due("nothing changes", x.personOf(0, 0), 100);
        due("no such person", x.means(6, 0), BEYOND);
        due("no such person", x.means(-1, 0), BEYOND);
        due("too few", x.means(0, -1), BEYOND);
        due("too many", x.means(0, 101), BEYOND);
        due("findings", x.status(0), 4);
    }

    private static void gone() {
        promise = 16;
        LeftTillCalled x = poor();
        left(x, PARCEL, 0, 0, 9999);
        left(x, PARCEL, 1, 400, 9999);
        left(x, PARCEL, 2, 400, 9999);
        left(x, REGIMENT, 3, 1, 0);
        left(x, PARCEL, 4, 0, 9999);
        x.call(4);
        means(x, 0, 2, 0, 0);
        means(x, 1, 0, 4, 0);
        means(x, 2, 2, 4, 0);
        due("in a day", x.gone(0), 1);
        due("in two hundred", x.gone(1), 200);
        due("a day sooner", x.gone(2), 199);
        due("never", x.gone(3), NONE);
        due("it isn't there", x.gone(4), 0);
        x.set(1, 3, 402);
        due("a day too late", x.gone(1), NONE);
        due("no such thing", x.gone(5), BEYOND);
        due("no such thing", x.gone(-1), BEYOND);
        due("nothing changes", x.now(0), 0);
        due("NONE", x.status(3), 2);
        due("BEYOND", x.status(0), 2);
    }

    private static void comes() {
        promise = 17;
        LeftTillCalled x = poor();
        left(x, PARCEL, 0, 90, 100);
        left(x, PARCEL, 1, 400, 9999);
        x.person(4, 0, 10);
        due("by a sale", x.comes(0, 4), 7);
        due("not to another", x.comes(0, 0), NONE);
        due("not to another", x.comes(0, 5), NONE);
        x.set(0, 4, 9999);
        means(x, 1, 0, 4, 0);
        due("in two hundred", x.comes(1, 1), 200);
        x.set(1, 3, 402);
        due("a day too late", x.comes(1, 1), NONE);
        x.set(1, 3, 0);
        x.call(1);
        due("it is WITH him", x.comes(1, 1), 0);
        due("it is WITH another", x.comes(1, 2), NONE);
        due("no such thing", x.comes(2, 0), BEYOND);
        due("no such thing", x.comes(-1, 0), BEYOND);
        due("no such person", x.comes(0, 6), BEYOND);
        due("no such person", x.comes(0, -1), BEYOND);
        due("NONE", x.status(3), 4);
        due("BEYOND", x.status(0), 4);
    }

    private static void empty() {
        promise = 18;
        LeftTillCalled x = poor();
        due("nothing was LEFT", x.empty(), 0);
        left(x, PARCEL, 0, 0, 9999);
        left(x, PARCEL, 1, 400, 9999);
        due("never", x.empty(), NONE);
        means(x, 0, 2, 0, 0);
        due("never yet", x.empty(), NONE);
        means(x, 1, 0, 4, 0);
        due("in two hundred", x.empty(), 200);
        x.set(1, 3, 402);
        due("a day too late", x.empty(), NONE);
        x.person(1, 0, 402);
        x.call(1);
        due("the last of them", x.empty(), 1);
        x.call(0);
        due("all are gone", x.empty(), 0);
        due("nothing changes", x.now(0), 0);
        due("NONE", x.status(3), 3);
    }

    private static void enough() {
        promise = 19;
        LeftTillCalled x = poor();
        left(x, PARCEL, 0, 100, 9999);
        left(x, PARCEL, 0, 50, 9999);
        due("for the dearer one", x.enough(0, 0, 1), 102);
        due("for the second", x.enough(1, 0, 1), 52);
        due("no less in more days", x.enough(1, 0, 9), 52);
        x.person(0, 1, 5);
        due("what is earned helps", x.enough(1, 0, 3), 41);
        due("nothing changes", x.personOf(0, 0), 0);
        due("not to another", x.enough(1, 3, 60), NONE);
        x.person(0, 1, 0);
        x.set(0, 3, 997);
        x.set(1, 3, 998);
        due("just", x.enough(0, 0, 1), 999);
        due("too dear", x.enough(1, 0, 1), NONE);
        x.person(0, 0, 999999);
        due("he has more now", x.enough(1, 0, 1), NONE);
        x.call(1);
        due("it is WITH him", x.enough(1, 0, 1), 0);
        due("it is WITH another", x.enough(1, 1, 1), NONE);

        x = poor();
        left(x, LADY, 0, 500, 100);
        due("no sale yet", x.enough(0, 1, 6), NONE);
        due("above 0", x.enough(0, 1, 7), 1);
        x.person(2, 0, 50);
        due("before a later one", x.enough(0, 1, 7), 50);
        due("behind a former one", x.enough(0, 3, 7), 100);
        x.person(2, 0, 999);
        due("more than the other's offer", x.enough(0, 3, 7), NONE);
        due("as much as the other's offer", x.enough(0, 1, 7), 900);
        int[][] wrongs = {{1, 0, 1}, {-1, 0, 1}, {0, 6, 1}, {0, -1, 1}, {0, 0, 0}, {0, 0, 61}, {0, 0, LEAST}};
        for (int[] w : wrongs) {
            due("a wrong one", x.enough(w[0], w[1], w[2]), BEYOND);
        }
        due("BEYOND", x.status(0), wrongs.length);
        due("NONE", x.status(3), 2);
    }

    private static void spend() {
        promise = 20;
        LeftTillCalled x = poor();
        left(x, PARCEL, 0, 0, 9999);
        means(x, 0, 20, 10, 0);
        due("what is over", x.spend(0, 0, 1), 28);
        x.person(0, 0, 91);
        due("at most", x.spend(0, 0, 1), 99);
        x.person(0, 0, 90);
        due("at most, just", x.spend(0, 0, 1), 98);
        x.set(0, 3, 98);
        due("all that he has", x.spend(0, 0, 1), 0);
        x.set(0, 3, 99);
        due("too dear", x.spend(0, 0, 1), NONE);
        due("in two days", x.spend(0, 0, 2), 3);
        due("in sixty days", x.spend(0, 0, 60), 7);
        due("nothing changes", x.personOf(0, 2), 0);
        due("not to another", x.spend(0, 1, 60), NONE);
        x.set(0, 3, 0);
        x.call(0);
        due("it is WITH him", x.spend(0, 0, 1), 99);
        due("it is WITH another", x.spend(0, 1, 1), NONE);
        int[][] wrongs = {{1, 0, 1}, {-1, 0, 1}, {0, 6, 1}, {0, -1, 1}, {0, 0, 0}, {0, 0, 61}};
        for (int[] w : wrongs) {
            due("a wrong one", x.spend(w[0], w[1], w[2]), BEYOND);
        }
        due("BEYOND", x.status(0), wrongs.length);
        due("NONE", x.status(3), 3);
    }

    private static void kind() {
        promise = 21;
        LeftTillCalled x = poor();
        left(x, REGIMENT, 0, 0, 9999);
        x.person(0, 0, 2);
        due("of several the least", x.kind(0, 0), PARCEL);
        x.person(0, 0, 1);
        due("only a glove", x.kind(0, 0), GLOVE);
        due("not to another", x.kind(0, 1), NONE);
        due("nothing changes", x.of(0, 0), REGIMENT);
        x.person(0, 0, 0);
        due("none", x.kind(0, 0), NONE);
        x.set(0, 3, 200);
        x.set(0, 4, 300);
        x.person(1, 0, 999);
        x.person(2, 0, 999);
        due("who bids least far is first", x.kind(0, 1), GLOVE);
        due("never the second", x.kind(0, 2), NONE);
        x.set(0, 3, 280);
        due("soonest", x.kind(0, 1), LADY);
        x.person(2, 0, 9999);
        due("soonest by a higher bid", x.kind(0, 2), LADY);
        x.set(0, 3, 286);
        due("soonest by a least kind", x.kind(0, 1), GLOVE);

        x = poor();
        left(x, PARCEL, 0, 200, 9999);
        means(x, 0, 0, 4, 0);
        x.person(0, 0, 0);
        due("a glove is soonest", x.kind(0, 0), GLOVE);
        x.set(0, 3, 350);
        due("just within", x.kind(0, 0), GLOVE);
        x.set(0, 3, 351);
        due("too late", x.kind(0, 0), NONE);
        x.set(0, 3, 0);
        x.call(0);
        due("it is WITH him", x.kind(0, 0), PARCEL);
        due("it is WITH another", x.kind(0, 1), NONE);
        due("no such thing", x.kind(1, 0), BEYOND);
        due("no such thing", x.kind(-1, 0), BEYOND);
        due("no such person", x.kind(0, 6), BEYOND);
        due("no such person", x.kind(0, -1), BEYOND);
        due("BEYOND", x.status(0), 4);
        due("NONE", x.status(3), 2);
    }

    private static void label() {
        promise = 22;
        LeftTillCalled x = poor();
        left(x, REGIMENT, 0, 50, 100);
        due("none", x.label(0), NONE);
        x.person(5, 0, 60);
        due("who can pay", x.label(0), 5);
        x.person(3, 0, 53);
        due("of several the least", x.label(0), 3);
        x.person(0, 0, 53);
        due("of several the least", x.label(0), 0);
        x.person(0, 0, 0);
        x.person(3, 0, 52);
        means(x, 1, 50, 4, 0);
        due("the soonest", x.label(0), 1);
        due("nothing changes", x.of(0, 1), 0);
        x.person(1, 0, 0);
        x.person(5, 0, 0);
        x.set(0, 3, 100);
        due("in a hundred days", x.label(0), 1);
        x.set(0, 3, 101);
        due("too late", x.label(0), NONE);
        x.set(0, 3, 0);
        x.set(0, 1, 3);
        x.call(0);
        due("it isn't there", x.label(0), STATE);
        due("no such thing", x.label(1), BEYOND);
        due("no such thing", x.label(-1), BEYOND);
        due("NONE", x.status(3), 2);
        due("STATE", x.status(4), 1);
        due("BEYOND", x.status(0), 2);

        x = poor();
        left(x, PARCEL, 2, 500, 100);
        x.person(0, 0, 40);
        due("a sale to another", x.label(0), 1);
    }

    private static void first() {
        promise = 23;
        LeftTillCalled x = poor();
        due("nothing there", x.first(0, 1), 0);
        left(x, PARCEL, 1, 9, 9999);
        left(x, PARCEL, 1, 3, 9999);
        left(x, PARCEL, 1, 2, 9999);
        x.person(1, 0, 12);
        due("two of three", x.first(1, 60), 2);
        due("another's can't be called for", x.first(0, 60), 0);
        x.set(1, 1, 0);
        due("another's is left out", x.first(1, 60), 0);
        x.set(1, 1, 1);
        x.set(1, 3, 13);
        due("too dear is left out", x.first(1, 60), 0);
        x.set(1, 3, 3);
        means(x, 1, 12, 20, 0);
        due("none is as good", x.first(1, 60), 0);
        due("a day is soon", x.first(1, 1), 1);
        due("nothing changes", x.now(2), 7);
        due("nothing changes", x.personOf(1, 0), 12);
        x.call(0);
        means(x, 1, 12, 20, 0);
        due("one that is WITH him is left out", x.first(1, 1), 2);
        for (int t = 3; t < 8; t++) {
            left(x, PARCEL, 5, 10 + t, 9999);
        }
        x.set(7, 3, 4);
        x.person(5, 0, 5);
        due("the last of eight", x.first(5, 1), 8);
        due("no such person", x.first(6, 1), BEYOND);
        due("no such person", x.first(-1, 1), BEYOND);
        due("too few", x.first(0, 0), BEYOND);
        due("too many", x.first(0, 61), BEYOND);
        due("findings", x.status(-1), 4);
    }

    private static void worth() {
        promise = 24;
        LeftTillCalled x = poor();
        left(x, LADY, 0, 200, 5000);
        x.person(3, 0, 1000);
        due("as much as DUE", x.worth(0, 7), 242);
        due("a day sooner", x.worth(0, 6), 0);
        due("at the eighth sale", x.worth(0, 56), 536);
        due("nothing changes", x.of(0, 4), 5000);
        x.turn(0, PARCEL);
        due("nobody offers", x.worth(0, 60), 0);
        x.turn(0, HATBOX);
        due("twice as much", x.worth(0, 7), 2 * (200 + 7 + 4));
        x.turn(0, LADY);
        x.set(0, 3, 957);
        due("just", x.worth(0, 7), 999);
        x.set(0, 3, 958);
        due("too much", x.worth(0, 7), NONE);
        x.turn(0, REGIMENT);
        x.set(0, 3, 0);
        x.person(0, 0, 3);
        due("a regiment too dear to call for", x.worth(0, 1), 200);
        x.call(0);
        due("it isn't there", x.worth(0, 1), NONE);
        due("no such thing", x.worth(1, 1), BEYOND);
        due("no such thing", x.worth(-1, 1), BEYOND);
        due("too few", x.worth(0, 0), BEYOND);
        due("too many", x.worth(0, 61), BEYOND);
        due("NONE", x.status(3), 2);
        due("BEYOND", x.status(0), 4);
    }

    private static void most() {
        promise = 25;
        LeftTillCalled x = poor();
        due("nothing there", x.most(100), 0);
        left(x, PARCEL, 2, 0, 9999);
        left(x, PARCEL, 4, 0, 9999);
        left(x, PARCEL, 4, 0, 9999);
        x.person(2, 0, 2);
        x.person(4, 0, 50);
        due("none is WITH anybody", x.most(0), 0);
        due("of several the least", x.most(1), 2);
        due("then", x.most(2), 4);
        due("at last", x.most(100), 4);
        due("nothing changes", x.now(2), 7);
        x.set(0, 1, 1);
        x.set(1, 1, 1);
        x.person(1, 0, 50);
        due("another at last", x.most(100), 1);
        due("too few", x.most(-1), BEYOND);
        due("too many", x.most(101), BEYOND);
        due("findings", x.status(0), 2);
    }

    private static void feed() {
        promise = 26;
        LeftTillCalled x = new LeftTillCalled();
        due("too few", x.feed(0, 0), BEYOND);
        due("too many", x.feed(0, 5), BEYOND);
        due("too few", x.feed(0, LEAST), BEYOND);
        due("none yet", x.count(1), 0);
        due("the lowest, highest first", x.feed(0x21776966, 3), 3);
        due("one", x.feed(0x12345665, 1), 4);
        due("a wife", x.station(), 1);
        due("a wife", x.of(0, 0), WIFE);
        due("four", x.feed(0x6c616479, 4), 4);
        due("a lady", x.station(), 1);
        due("a lady", x.of(1, 0), LADY);
        for (int i = 1; i <= 29; i++) {
            due("so many", x.feed(0x20202020, 4), 4 * i);
        }
        due("to 118", x.feed(0x2020, 2), 118);
        due("three more", x.feed(0, 3), FULL);
        due("BEYOND is asked first", x.feed(0, 5), BEYOND);
        due("nothing came", x.count(1), 118);
        due("two more", x.feed(0x2020, 2), 120);
        due("one more", x.feed(0x20, 1), FULL);
        due("none of these began a token", x.station(), -121);
        due("FULL", x.status(1), 2);
        due("BEYOND", x.status(0), 4);
    }

    private static void wipe() {
        promise = 27;
        LeftTillCalled x = new LeftTillCalled();
        due("it had none", x.wipe(), 0);
        x.feed(0x77696665, 4);
        x.feed(0x7769, 2);
        due("it had", x.wipe(), 6);
        due("bytes", x.count(1), 0);
        due("it had none then", x.wipe(), 0);
        due("nothing is told", x.station(), -1);
        due("no thing came", x.count(0), 0);
    }

    private static void stationItems() {
        promise = 28;
        LeftTillCalled x = new LeftTillCalled();
        x.days(4);
        due("kinds", told(x, "parcel;lady;glove;regiment;wife;hatbox"), 6);
        for (int k = 0; k < 6; k++) {
            due("KIND", x.of(k, 0), k);
            due("LABEL", x.of(k, 1), 0);
            due("LEFT", x.of(k, 2), 4);
            due("DUE", x.of(k, 3), 0);
            due("WORTH", x.of(k, 4), 100);
            due("WITH", x.of(k, 5), -1);
        }
        due("THE TAPE is empty then", x.count(1), 0);
        due("all of it", told(x, "  lady  for 5due09999   worth 0 ; glove worth 9999"), 2);
        due("KIND", x.of(6, 0), LADY);
        due("LABEL", x.of(6, 1), 5);
        due("DUE", x.of(6, 3), 9999);
        due("WORTH", x.of(6, 4), 0);
        due("DUE", x.of(7, 3), 0);
        due("WORTH", x.of(7, 4), 9999);
        due("means", told(x, "means 3 9999 earns 999 spends 998"), 1);
        due("MEANS", x.personOf(3, 0), 9999);
        due("EARNS", x.personOf(3, 1), 999);
        due("SPENDS", x.personOf(3, 2), 998);
        due("means alone", told(x, "means 3 0"), 1);
        due("MEANS", x.personOf(3, 0), 0);
        due("EARNS", x.personOf(3, 1), 999);
        due("SPENDS", x.personOf(3, 2), 998);
        due("some", told(x, "means 3 5 spends 0;means 3 6 earns 1"), 2);
        due("MEANS", x.personOf(3, 0), 6);
        due("EARNS", x.personOf(3, 1), 1);
        due("SPENDS", x.personOf(3, 2), 0);
        due("nothing at all", told(x, "means 0 0 earns 0 spends 0"), 1);
        due("MEANS", x.personOf(0, 0), 0);
        due("EARNS", x.personOf(0, 1), 0);
        due("SPENDS", x.personOf(0, 2), 0);
        due("zeros in front", told(x, "means 0000000000000000000005 000000000000000000000012"), 1);
        due("MEANS", x.personOf(5, 0), 12);
        due("no findings", x.status(-1), 0);
    }

    private static void stationFaults() {
        promise = 28;
        String[] texts = {
            "", "   ", "wife;", "wife; ", ";wife", "wife;;lady", "Wife", "wifelady", "wife lady", "wife for",
            "wife for ", "wife for 6", "wife for for", "wife due 10000", "wife due 99999999999999999999",
            "wife worth 10000", "wife for 1 for 2", "wife worth 1 due 2", "wife due 1 for 2", "wife for -1",
            "wife 5", "means", "means 1", "means 6 1", "means 1 10000", "means 1 20 spends 4 earns 3",
            "means 1 2 earns 1000", "means 1 2 spends 1000", "means 1 2 earns", "means 1 2 for 3", "means wife",
            "wife\tfor 1", "for 1", "parcel99", "glovefor1", "wife.", "wife \u00ff", "5", "wife; means 1 2 3",
            "means 1 2; means 7 @", "lady, wife", "parcels", "parce", "wife; due 3", "means 1;wife",
            "wifez", "zwife", "xife", "{wife", "wife for 5:", "wife for /5", "wife`", "ladx", "lbdy",
            "wife due", "wife worth", "wife due;lady", "wife worth;lady", "wife for;lady", "means 1 2 spends",
            "means 1 2 spends;lady", "means 1 2 earns;lady", "means;lady", "means 1 ;lady"
        };
        int[] places = {
            0, 3, 5, 6, 0, 5, 0, 0, 5, 8,
            9, 9, 9, 9, 9,
            11, 11, 13, 11, 9,
            5, 5, 7, 6, 8, 20,
            16, 17, 15, 10, 6,
            4, 0, 6, 0, 4, 5, 0, 16,
            17, 4, 0, 0, 6, 7,
            0, 0, 0, 0, 10, 9, 4, 0, 0,
            8, 10, 8, 10, 8, 16,
            16, 15, 5, 8
        };
        LeftTillCalled x = new LeftTillCalled();
        for (int i = 0; i < texts.length; i++) {
            x = new LeftTillCalled();
            due("'" + texts[i] + "'", told(x, texts[i]), -1 - places[i]);
            due("THE TAPE is empty then", x.count(1), 0);
            due("no thing came", x.count(0), 0);
            due("no findings", x.status(-1), 0);
        }
        String[] good = {"glove for1due2worth3", "wife for 5", " wife ", "means 5 9999", "wife;lady ;glove; hatbox"};
        int[] items = {1, 1, 1, 1, 4};
        for (int i = 0; i < good.length; i++) {
            due("'" + good[i] + "'", told(x, good[i]), items[i]);
        }
        due("THINGS", x.count(0), 7);
        due("a 9th", told(x, "parcel for 1; lady for 9"), -1 - 14);
        due("an 8th", told(x, "means 1 2; lady"), 2);
        due("a 9th", told(x, "means 1 3; hatbox for 1"), -1 - 11);
        due("not for the means", told(x, "means 1 4;means 2 4"), 2);
        due("THINGS", x.count(0), 8);
        due("MEANS", x.personOf(1, 0), 4);
    }

    private static void stationChangesNothing() {
        promise = 28;
        LeftTillCalled x = new LeftTillCalled();
        due("a fault at the end", told(x, "means 1 5 earns 6 spends 7; wife for 2 due 3; lady for 9"), -1 - 55);
        due("THINGS", x.count(0), 0);
        due("MEANS", x.personOf(1, 0), 100);
        due("EARNS", x.personOf(1, 1), 10);
        due("SPENDS", x.personOf(1, 2), 5);
        due("bytes", x.count(1), 0);
        due("findings", x.status(-1), 0);
        due("and then without", told(x, "means 1 5 earns 6 spends 7; wife for 2 due 3; lady for 3"), 3);
        due("THINGS", x.count(0), 2);
        due("MEANS", x.personOf(1, 0), 5);
    }

    private static void sheet() {
        promise = 29;
        LeftTillCalled x = new LeftTillCalled();
        due("8 bits", x.sheet(0, 8, 40), 40);
        due("16 bits", x.sheet(1, 16, 1), 1);
        due("64 bits", x.sheet(3, 64, 0), 0);
        x.write(0, 0, 6);
        x.write(0, 39, 7);
        due("anew", x.sheet(0, 8, 40), 40);
        due("all 0", x.write(0, 0, 0), 0);
        due("all 0", x.write(0, 39, 9), 0);
        int[][] beyond = {
            {-1, 8, 1}, {4, 8, 1}, {GREATEST, 8, 1}, {0, 1, 1}, {0, 32, 1}, {0, -8, 1}, {0, 9, -1}, {4, 8, -1},
            {0, 8, 41}, {0, 0, 41}, {0, 64, GREATEST}
        };
        for (int[] b : beyond) {
            due("a wrong one", x.sheet(b[0], b[1], b[2]), BEYOND);
        }
        due("below 0", x.sheet(0, 8, -1), SIZE);
        due("below 0", x.sheet(0, 0, -1), SIZE);
        due("below 0", x.sheet(0, 16, LEAST), SIZE);
        due("it is as it was", x.write(0, 39, 1), 9);
        due("MISSING", x.sheet(0, 0, 40), 0);
        due("it is MISSING", x.write(0, 0, 0), MISSING);
        due("MISSING again", x.sheet(0, 0, 0), 0);
        due("shorter", x.sheet(1, 8, 2), 2);
        due("its end", x.write(1, 2, 0), BEYOND);
        due("BEYOND", x.status(0), beyond.length + 1);
        due("SIZE", x.status(6), 3);
        due("MISSING", x.status(5), 1);
    }

    private static void write() {
        promise = 30;
        LeftTillCalled x = new LeftTillCalled();
        x.sheet(0, 8, 3);
        x.sheet(1, 16, 3);
        x.sheet(2, 64, 3);
        due("it was", x.write(0, 2, 127), 0);
        due("it was", x.write(0, 2, 128), 127);
        due("8 bits", x.write(0, 2, 0x1ffL), -128);
        due("8 bits", x.write(0, 2, 256), -1);
        due("8 bits", x.write(0, 2, 0), 0);
        due("it was", x.write(1, 0, 32768), 0);
        due("16 bits", x.write(1, 0, 65535 + 65536L * 3), -32768);
        due("16 bits", x.write(1, 0, 32767), -1);
        due("16 bits", x.write(1, 0, 0), 32767);
        due("it was", x.write(2, 1, Long.MIN_VALUE), 0);
        due("64 bits", x.write(2, 1, Long.MAX_VALUE), Long.MIN_VALUE);
        due("64 bits", x.write(2, 1, 0), Long.MAX_VALUE);
        due("others are 0", x.write(2, 0, 0), 0);
        due("no such sheet", x.write(4, 0, 0), BEYOND);
        due("no such sheet", x.write(-1, 0, 0), BEYOND);
        due("MISSING", x.write(3, 0, 0), MISSING);
        due("MISSING is asked first", x.write(3, -1, 0), MISSING);
        due("no such number", x.write(0, 3, 0), BEYOND);
        due("no such number", x.write(0, -1, 0), BEYOND);
        due("no such number", x.write(0, LEAST, 0), BEYOND);
        due("BEYOND", x.status(0), 5);
        due("MISSING", x.status(5), 2);
    }

    private static void copy() {
        promise = 31;
        LeftTillCalled x = new LeftTillCalled();
        x.sheet(0, 16, 5);
        x.sheet(1, 16, 3);
        x.sheet(2, 8, 5);
        for (int i = 0; i < 5; i++) {
            x.write(0, i, 10 + i);
        }
        due("n", x.copy(0, 2, 1, 0, 3), 3);
        due("came", x.write(1, 0, 0), 12);
        due("came", x.write(1, 2, 0), 14);
        due("forth in one", x.copy(0, 0, 0, 1, 4), 4);
        int[] forth = {10, 10, 11, 12, 13};
        for (int i = 0; i < 5; i++) {
            due("as they were", x.write(0, i, 20 + i), forth[i]);
        }
        due("back in one", x.copy(0, 1, 0, 0, 4), 4);
        int[] back = {21, 22, 23, 24, 24};
        for (int i = 0; i < 5; i++) {
            due("as they were", x.write(0, i, 0), back[i]);
        }
        due("none", x.copy(0, 5, 1, 3, 0), 0);
        int[][] beyond = {
            {4, 0, 0, 0, 1}, {-1, 0, 0, 0, 1}, {0, 0, 4, 0, 1}, {0, 0, -1, 0, 1}, {3, 0, 4, 0, 1},
            {0, 3, 1, 0, 3}, {0, 0, 1, 1, 3}, {0, -1, 1, 0, 1}, {0, 0, 1, -1, 1}, {0, 0, 1, 0, -1},
            {0, GREATEST, 1, 0, GREATEST}, {0, 0, 1, GREATEST, 1}, {0, LEAST, 1, 0, 1}, {0, 1, 1, 1, GREATEST},
            {0, 0, 1, 0, 4}, {0, 6, 1, 0, 0}
        };
        for (int[] b : beyond) {
            due("a wrong one", x.copy(b[0], b[1], b[2], b[3], b[4]), BEYOND);
        }
        due("MISSING", x.copy(3, 0, 0, 0, 1), MISSING);
        due("MISSING", x.copy(0, 0, 3, 0, 1), MISSING);
        due("MISSING before all but the sheets", x.copy(0, -1, 3, 0, 1), MISSING);
        due("KIND", x.copy(0, 0, 2, 0, 1), KIND);
        due("KIND before the numbers", x.copy(0, 0, 2, 0, -1), KIND);
        due("BEYOND", x.status(0), beyond.length);
        due("MISSING", x.status(5), 3);
        due("KIND", x.status(2), 2);
    }

    private static void lays() {
        promise = 32;
        LeftTillCalled x = new LeftTillCalled();
        x.sheet(0, 64, 8);
        long[] v = {0, 999999, 1000000, -1, Long.MIN_VALUE, 77, 88, 99};
        for (int i = 0; i < 8; i++) {
            x.write(0, i, v[i]);
        }
        due("so many came", x.lays(0), 3);
        int[] means = {0, 999999, 100, 100, 100, 77};
        for (int p = 0; p < 6; p++) {
            due("MEANS of " + p, x.personOf(p, 0), means[p]);
        }
        x.write(0, 0, 1L << 32);
        due("not by its lowest bits", x.lays(0), 2);
        due("MEANS of 0", x.personOf(0, 0), 0);
        x.sheet(1, 8, 2);
        x.write(1, 0, 200);
        x.write(1, 1, 100);
        due("8 bits", x.lays(1), 1);
        due("MEANS of 1", x.personOf(1, 0), 100);
        x.sheet(1, 16, 0);
        due("none", x.lays(1), 0);
        due("no such sheet", x.lays(4), BEYOND);
        due("no such sheet", x.lays(-1), BEYOND);
        due("MISSING", x.lays(2), MISSING);
        due("BEYOND", x.status(0), 2);
        due("MISSING", x.status(5), 1);
    }

    private static void book() {
        promise = 33;
        LeftTillCalled x = poor();
        left(x, HATBOX, 0, 120, 9999);
        means(x, 0, 0, 32, 0);
        x.sheet(0, 64, 8);
        due("so many", x.book(0, 0), 8);
        int[] dues = {120, 122, 123, 125, 0, 0, 0, 0};
        for (int i = 0; i < 8; i++) {
            due("DUE on " + i, x.write(0, i, 0), dues[i]);
        }
        x.set(0, 3, 254);
        x.person(0, 1, 0);
        x.sheet(1, 8, 3);
        due("so many", x.book(1, 0), 3);
        due("its lowest bits", x.write(1, 0, 0), -2);
        due("its lowest bits", x.write(1, 1, 0), 0);
        due("its lowest bits", x.write(1, 2, 0), 1);
        due("nothing changes", x.now(0), 0);
        due("nothing changes", x.of(0, 3), 254);
        x.sheet(1, 8, 0);
        due("none", x.book(1, 0), 0);
        x.sheet(1, 16, 40);
        due("as many as there may be", x.book(1, 0), 40);
        due("the last", x.write(1, 39, 0), 254 + 39 + 20);
        due("no such sheet", x.book(4, 0), BEYOND);
        due("no such sheet", x.book(-1, 0), BEYOND);
        due("MISSING", x.book(2, 0), MISSING);
        due("MISSING is asked first", x.book(2, 1), MISSING);
        due("no such thing", x.book(0, 1), BEYOND);
        due("no such thing", x.book(0, -1), BEYOND);
        due("BEYOND", x.status(0), 4);
        due("MISSING", x.status(5), 2);
    }

    private static void read() {
        promise = 34;
        LeftTillCalled x = poor();
        left(x, LADY, 0, 10, 400);
        x.sheet(0, 16, 3);
        x.sheet(1, 64, 0);
        due("none of it", x.read(0, 0), 0);
        due("nothing to make", x.read(1, 0), 36);
        x.book(0, 0);
        due("a lady, a wife or a regiment, anybody's", x.read(0, 0), 18);
        x.person(4, 0, 16);
        due("but not his, who calls", x.read(0, 0), 15);
        x.set(0, 1, 4);
        x.set(0, 4, 500);
        x.book(0, 0);
        due("just his, but for a regiment at 17", x.read(0, 0), 5);
        x.write(0, 0, 11);
        due("not just so", x.read(0, 0), 0);
        due("nothing changes", x.of(0, 0), LADY);
        due("nothing changes", x.of(0, 1), 4);
        x.person(4, 0, 0);
        x.set(0, 3, 300);
        x.sheet(2, 8, 1);
        x.book(2, 0);
        due("more than its bits hold", x.read(2, 0), 0);
        due("no such sheet", x.read(4, 0), BEYOND);
        due("no such sheet", x.read(-1, 0), BEYOND);
        due("MISSING", x.read(3, 0), MISSING);
        due("MISSING is asked first", x.read(3, 9), MISSING);
        due("no such thing", x.read(0, 1), BEYOND);
        due("no such thing", x.read(0, -1), BEYOND);
        due("BEYOND", x.status(0), 4);
        due("MISSING", x.status(5), 2);
    }

    private static void image() {
        promise = 35;
        LeftTillCalled x = poor();
        left(x, LADY, 3, 44, 55);
        means(x, 2, 7, 1, 1);
        x.sheet(0, 8, 1);
        x.write(0, 0, 5);
        x.feed(0x77, 1);
        due("kept", x.image(), 1);
        x.days(9);
        x.thing(GLOVE, 0);
        means(x, 2, 8, 9, 9);
        x.turn(0, WIFE);
        x.set(0, 1, 2);
        x.set(0, 3, 1);
        x.set(0, 4, 2);
        x.call(0);
        x.feed(0x77, 1);
        x.write(0, 0, 6);
        due("undone", x.undo(), 1);
        int[] of = {LADY, 3, 0, 44, 55, -1};
        for (int what = 0; what < of.length; what++) {
            due("of the thing " + what, x.of(0, what), of[what]);
        }
        due("DAY", x.now(0), 0);
        due("TAKEN", x.now(1), 0);
        due("MEANS", x.personOf(2, 0), 7);
        due("EARNS", x.personOf(2, 1), 1);
        due("SPENDS", x.personOf(2, 2), 1);
        due("THE TAPE is not kept", x.count(1), 2);
        due("sheets are not kept", x.write(0, 0, 0), 6);
    }

    private static void undo() {
        promise = 36;
        LeftTillCalled x = new LeftTillCalled();
        due("nothing is kept", x.undo(), NONE);
        x.image();
        x.thing(0, 0);
        x.image();
        x.thing(0, 0);
        x.days(1);
        due("the latest", x.undo(), 1);
        x.thing(0, 0);
        x.thing(0, 0);
        x.set(0, 3, 9);
        due("it stays", x.undo(), 1);
        due("DUE", x.of(0, 3), 0);
        due("DAY", x.now(0), 0);
        x.on(0, 50, 0);
        feedText(x, "lady; lady; x");
        x.station();
        due("it stays behind looks ahead", x.undo(), 1);
        x.thing(6, 6);
        x.undo();
        due("findings stay", x.status(-1), 2);
        due("NONE", x.status(3), 1);
    }

    private static void tear() {
        promise = 37;
        LeftTillCalled x = new LeftTillCalled();
        due("nothing was", x.tear(), 0);
        x.image();
        x.image();
        due("something was", x.tear(), 1);
        due("nothing is left", x.tear(), 0);
        due("nothing is kept", x.undo(), NONE);
        x.image();
        due("kept again", x.undo(), 0);
    }

    private static void count() {
        promise = 38;
        LeftTillCalled x = poor();
        due("THINGS", x.count(0), 0);
        left(x, PARCEL, 0, 0, 9999);
        left(x, PARCEL, 0, 1, 20);
        left(x, PARCEL, 0, 2, 3);
        x.call(0);
        x.feed(0, 3);
        due("THINGS", x.count(0), 3);
        due("bytes", x.count(1), 3);
        due("there", x.count(2), 2);
        due("WORTH together", x.count(3), 10022);
        for (int i = 3; i < 8; i++) {
            x.thing(WIFE, 0);
        }
        due("WORTH together, of eight", x.count(3), 10522);
        due("there, of eight", x.count(2), 7);
        due("no such what", x.count(4), BEYOND);
        due("no such what", x.count(-1), BEYOND);
        due("findings", x.status(0), 2);
    }

    private static void status() {
        promise = 39;
        LeftTillCalled x = new LeftTillCalled();
        due("none", x.status(-1), 0);
        x.image();
        x.count(9);
        for (int i = 0; i < 9; i++) {
            x.thing(GLOVE, 0);
        }
        x.as(0, HATBOX);
        x.tear();
        x.undo();
        x.image();
        x.leave(0);
        x.lays(0);
        x.sheet(0, 0, -1);
        for (int i = 0; i < 7; i++) {
            due("status(" + i + ")", x.status(i), 1);
        }
        due("all", x.status(-1), 7);
        x.leave(0);
        x.undo();
        due("undo takes none back", x.status(4), 2);
        due("another one", x.status(7), BEYOND);
        due("another one", x.status(-2), BEYOND);
        due("another one", x.status(LEAST), BEYOND);
        due("counted", x.status(0), 4);
        due("all", x.status(-1), 11);
    }
}
