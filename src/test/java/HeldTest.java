/** Section 1: what is held to a most or a least, where quotients are cut, and how a DAY goes at its edges. */
public final class HeldTest {
    private static final int PARCEL = Bounds.PARCEL;
    private static final int LADY = Bounds.LADY;
    private static final int GLOVE = Bounds.GLOVE;
    private static final int REGIMENT = Bounds.REGIMENT;
    private static final int WIFE = Bounds.WIFE;
    private static final int HATBOX = Bounds.HATBOX;
    private static final int NO_SALE = 9999;

    private static final Bounds B = new Bounds();

    public static void main(String[] args) {
        atFirst();
        takenByCalls();
        takenByDaysAndSales();
        meansEarned();
        meansSpent();
        dueHeld();
        mountsByDays();
        mountsByWorth();
        soldAboveWorth();
        soldAboveHalf();
        soldWife();
        bidHalf();
        bidHundredth();
        bidNoMore();
        callAtMeans();
        callsOnlyWhatIsThere();
        callsTheLeast();
        callsOneADay();
        dayInOrder();
        saleEachSeventh();
        saleByNumbers();
        saleNotToLabel();
        saleAboveNothing();
        saleOfSeveralTheLeast();
        saleHandsOver();
        saleBehindCalls();
        leftAgain();
        setsByBits();
        B.end();
    }

    private static LeftTillCalled poor() {
        return Bounds.poor();
    }

    private static int left(LeftTillCalled x, int kind, int person, int due, int worth) {
        return Bounds.left(x, kind, person, due, worth);
    }

    private static void atFirst() {
        B.sentence("1: No THINGS; THE TAPE is empty, no image is kept (and what is so at first)");
        LeftTillCalled x = new LeftTillCalled();
        for (int what = 0; what < 4; what++) {
            B.due("count(" + what + ")", x.count(what), 0);
        }
        int[] now = {0, 0, 0, 0, 600, 0};
        for (int what = 0; what < 6; what++) {
            B.due("now(" + what + ")", x.now(what), now[what]);
        }
        int[] person = {100, 10, 5, 0, 0};
        for (int p = 0; p < 6; p++) {
            for (int what = 0; what < 5; what++) {
                B.due("personOf(" + p + ", " + what + ")", x.personOf(p, what), person[what]);
            }
        }
        B.due("tear", x.tear(), 0);
        B.due("wipe", x.wipe(), 0);
        B.due("findings", x.status(-1), 0);
        x.thing(REGIMENT, 5);
        int[] thing = {REGIMENT, 5, 0, 0, 100, -1, 3, 0};
        for (int what = 0; what < 8; what++) {
            B.due("of(0, " + what + ")", x.of(0, what), thing[what]);
        }
    }

    /** One thing, there, and TAKEN 99999900: 401 calls. */
    private static LeftTillCalled muchTaken() {
        LeftTillCalled x = new LeftTillCalled();
        x.thing(PARCEL, 0);
        for (int i = 0; i < 100; i++) {
            x.set(0, 3, 999999);
            x.person(0, 0, 999999);
            x.call(0);
            x.leave(0);
        }
        return x;
    }

    private static void callFor(LeftTillCalled x, int pence) {
        x.set(0, 3, pence);
        x.person(0, 0, 999999);
        B.due("what was paid", x.call(0), pence);
        B.due("MEANS behind it", x.personOf(0, 0), 999999 - pence);
        x.leave(0);
    }

    private static void takenByCalls() {
        B.sentence("TAKEN (.. 0 at first, held to 99999999): To CALL");
        LeftTillCalled x = muchTaken();
        B.due("TAKEN", x.now(1), 99999900);
        x.image();
        callFor(x, 98);
        B.due("TAKEN just below", x.now(1), 99999998);
        callFor(x, 1);
        B.due("TAKEN at it", x.now(1), 99999999);
        callFor(x, 1);
        B.due("TAKEN one more", x.now(1), 99999999);
        callFor(x, 999999);
        B.due("TAKEN much more", x.now(1), 99999999);
        x.undo();
        callFor(x, 100);
        B.due("TAKEN just above", x.now(1), 99999999);
    }

    private static void takenByDaysAndSales() {
        B.sentence("TAKEN (.. held to 99999999): A DAY goes, a sale");
        LeftTillCalled x = muchTaken();
        for (int p = 0; p < 6; p++) {
            Bounds.person(x, p, 0, 0, 0);
        }
        x.image();
        x.set(0, 3, 96);
        x.person(0, 0, 100);
        B.due("called for", x.days(1), 0);
        B.due("TAKEN just below, by a DAY", x.now(1), 99999998);
        x.undo();
        x.set(0, 3, 98);
        x.person(0, 0, 101);
        B.due("called for", x.days(1), 0);
        B.due("TAKEN just above, by a DAY", x.now(1), 99999999);
        B.due("MEANS", x.personOf(0, 0), 1);
        x.undo();
        x.set(0, 3, 5000);
        x.set(0, 4, 198);
        x.person(3, 0, 150);
        B.due("sold", x.days(7), 0);
        B.due("TAKEN at it, by a sale", x.now(1), 99999999);
        x.undo();
        x.set(0, 3, 5000);
        x.set(0, 4, 240);
        x.person(3, 0, 150);
        B.due("sold", x.days(7), 0);
        B.due("TAKEN above, by a sale", x.now(1), 99999999);
        B.due("MEANS", x.personOf(3, 0), 30);
    }

    private static void meansEarned() {
        B.sentence("(2) MEANS are EARNS more (999999 at most)");
        int[][] earned = {
            {999998, 1, 0, 999999}, {999998, 2, 0, 999999}, {999999, 0, 0, 999999}, {999999, 1, 0, 999999},
            {999999, 999, 0, 999999}, {999000, 998, 0, 999998}, {999000, 999, 0, 999999}, {999001, 999, 0, 999999},
            {0, 999, 0, 999}, {0, 0, 0, 0}
        };
        goesTo(earned);
        B.sentence("(2) .. (999999 at most), then SPENDS less");
        int[][] heldFirst = {
            {999999, 1, 1, 999998}, {999999, 999, 999, 999000}, {999998, 1, 1, 999998}, {999998, 2, 2, 999997},
            {999990, 20, 5, 999994}, {999999, 5, 0, 999999}
        };
        goesTo(heldFirst);
    }

    private static void meansSpent() {
        B.sentence("(2) .. then SPENDS less (0 at least)");
        int[][] spent = {
            {5, 0, 4, 1}, {5, 0, 5, 0}, {5, 0, 6, 0}, {5, 0, 999, 0}, {0, 0, 1, 0}, {0, 7, 6, 1}, {0, 7, 7, 0},
            {0, 7, 8, 0}, {0, 999, 999, 0}, {1, 998, 999, 0}, {1, 999, 999, 1}
        };
        goesTo(spent);
        LeftTillCalled x = poor();
        Bounds.person(x, 1, 3, 0, 5);
        x.days(2);
        x.person(1, 2, 0);
        x.person(1, 1, 4);
        x.days(1);
        B.due("nothing is owed", x.personOf(1, 0), 4);
    }

    /** MEANS, EARNS, SPENDS, and what MEANS are a DAY later, the same for the first and the last. */
    private static void goesTo(int[][] rows) {
        for (int[] r : rows) {
            for (int p = 0; p < 6; p += 5) {
                LeftTillCalled x = poor();
                Bounds.person(x, p, r[0], r[1], r[2]);
                String what = "MEANS of " + r[0] + " + " + r[1] + " - " + r[2];
                B.due(what + " ON a DAY", x.means(p, 1), r[3]);
                x.days(1);
                B.due(what, x.personOf(p, 0), r[3]);
                B.due(what + " for another", x.personOf(5 - p, 0), 0);
            }
        }
    }

    private static void dueHeld() {
        B.sentence("(1) DUE of each that is there is what it MOUNTS more (999999 at most)");
        int[][] dues = {
            {PARCEL, 999996, 999998}, {PARCEL, 999997, 999999}, {PARCEL, 999998, 999999}, {PARCEL, 999999, 999999},
            {LADY, 999993, 999999}, {LADY, 999994, 999999}, {GLOVE, 999998, 999999}, {GLOVE, 999999, 999999},
            {REGIMENT, 999898, 999999}, {REGIMENT, 999899, 999999}, {REGIMENT, 999897, 999998},
            {WIFE, 999992, 999998}, {WIFE, 999995, 999999}, {HATBOX, 999997, 999999}, {HATBOX, 999998, 999999}
        };
        for (int[] d : dues) {
            LeftTillCalled x = poor();
            left(x, d[0], 0, d[1], NO_SALE);
            B.due("DUE of kind " + d[0] + " from " + d[1] + " ON a DAY", x.on(0, 1, 0), d[2]);
            x.days(1);
            B.due("DUE of kind " + d[0] + " from " + d[1], x.of(0, 3), d[2]);
        }
        LeftTillCalled x = poor();
        left(x, PARCEL, 0, 999999, NO_SALE);
        x.person(0, 0, 999999);
        B.due("a held DUE can be called for", x.days(1), 0);
        B.due("MEANS", x.personOf(0, 0), 0);
    }

    private static void mountsByDays() {
        B.sentence("MOUNTS .. GLOVE: 1, if d is even, else 0. WIFE: as LADY, and a tenth of d. HATBOX: as GLOVE, and 1.");
        int[][] mounts = {
            {0, 1, 6, 2}, {1, 0, 6, 1}, {2, 1, 6, 2}, {9, 0, 6, 1}, {10, 1, 7, 2}, {11, 0, 7, 1}, {19, 0, 7, 1},
            {20, 1, 8, 2}, {99, 0, 15, 1}, {100, 1, 16, 2}, {9996, 1, 1005, 2}
        };
        for (int first = 0; first < 2; first++) {
            LeftTillCalled x = poor();
            Bounds.goTo(x, first);
            left(x, GLOVE, 0, 1, NO_SALE);
            left(x, WIFE, 0, 1, NO_SALE);
            left(x, HATBOX, 0, 1, NO_SALE);
            for (int[] m : mounts) {
                Bounds.goTo(x, first + m[0]);
                for (int t = 0; t < 3; t++) {
                    x.set(t, 3, 1);
                    B.due("MOUNTS of thing " + t + " after " + m[0], x.of(t, 6), m[1 + t]);
                    B.due("DUE a DAY on", x.on(t, 1, 0), 1 + m[1 + t]);
                }
            }
        }
    }

    private static void mountsByWorth() {
        B.sentence("MOUNTS .. REGIMENT: as PARCEL, and a hundredth of WORTH. (Quotients are cut.)");
        LeftTillCalled x = poor();
        x.thing(REGIMENT, 0);
        int[][] mounts = {{0, 2}, {99, 2}, {100, 3}, {101, 3}, {199, 3}, {200, 4}, {9899, 100}, {9900, 101}, {9999, 101}};
        for (int[] m : mounts) {
            x.set(0, 4, m[0]);
            B.due("MOUNTS with WORTH " + m[0], x.of(0, 6), m[1]);
            for (int kind : new int[] {PARCEL, LADY}) {
                x.turn(0, kind);
                B.due("MOUNTS of another with WORTH " + m[0], x.of(0, 6), kind == PARCEL ? 2 : 6);
            }
            x.turn(0, REGIMENT);
        }
    }

    private static void sold(LeftTillCalled x, int kind, int due, int worth, int want) {
        x.turn(0, kind);
        x.set(0, 3, due);
        x.set(0, 4, worth);
        B.due("SOLD of kind " + kind + " with DUE " + due + " and WORTH " + worth, x.of(0, 7), want);
        B.due("SOLD as a set", x.now(5), want);
    }

    private static void soldAboveWorth() {
        B.sentence("SOLD .. PARCEL: if DUE is above WORTH. LADY: as PARCEL. REGIMENT: never.");
        LeftTillCalled x = poor();
        x.thing(PARCEL, 0);
        int[][] rows = {
            {99, 100, 0}, {100, 100, 0}, {101, 100, 1}, {0, 0, 0}, {1, 0, 1}, {9998, 9999, 0}, {9999, 9999, 0},
            {10000, 9999, 1}, {999999, 9999, 1}, {1, 1, 0}, {2, 1, 1}
        };
        for (int[] r : rows) {
            sold(x, PARCEL, r[0], r[1], r[2]);
            sold(x, LADY, r[0], r[1], r[2]);
            sold(x, REGIMENT, r[0], r[1], 0);
        }
    }

    private static void soldAboveHalf() {
        B.sentence("SOLD .. GLOVE: if DUE is above half of WORTH. HATBOX: as GLOVE. (Quotients are cut.)");
        LeftTillCalled x = poor();
        x.thing(PARCEL, 0);
        int[][] rows = {
            {49, 100, 0}, {50, 100, 0}, {51, 100, 1}, {49, 99, 0}, {50, 99, 1}, {50, 101, 0}, {51, 101, 1},
            {0, 0, 0}, {1, 0, 1}, {0, 1, 0}, {1, 1, 1}, {1, 2, 0}, {2, 2, 1}, {4999, 9999, 0}, {5000, 9999, 1}
        };
        for (int[] r : rows) {
            sold(x, GLOVE, r[0], r[1], r[2]);
            sold(x, HATBOX, r[0], r[1], r[2]);
        }
    }

    private static void soldWife() {
        B.sentence("SOLD .. WIFE: as LADY, but not below 30 DAYS behind LEFT.");
        LeftTillCalled x = poor();
        x.days(4);
        x.thing(WIFE, 0);
        int[][] days = {{0, 0}, {1, 0}, {28, 0}, {29, 0}, {30, 1}, {31, 1}, {100, 1}};
        for (int[] d : days) {
            Bounds.goTo(x, 4 + d[0]);
            sold(x, WIFE, 100, 100, 0);
            sold(x, WIFE, 101, 100, d[1]);
            sold(x, WIFE, 999999, 0, d[1]);
            sold(x, LADY, 101, 100, 1);
            x.turn(0, WIFE);
        }
        for (int day = 4; day <= 7; day++) {
            x = poor();
            Bounds.goTo(x, day);
            left(x, WIFE, 0, 5000, 100);
            x.person(1, 0, 10);
            Bounds.goTo(x, 34);
            B.due("no sale before", x.now(2), 1);
            B.due("a sale on DAY 35 of one LEFT on " + day, x.days(1), day <= 5 ? 0 : 1);
        }
    }

    private static void bid(int kind, int worth, int means, int want) {
        LeftTillCalled x = poor();
        left(x, kind, 0, 0, worth);
        for (int p = 0; p < 6; p += 5) {
            x.person(p, 0, means);
            B.due("BID for kind " + kind + " of WORTH " + worth + " with " + means, x.bid(0, p), want);
        }
    }

    private static void bidHalf() {
        B.sentence("BID .. PARCEL: a half of WORTH. GLOVE: as PARCEL. REGIMENT: 0. HATBOX: as GLOVE, and 5.");
        int[][] halves = {{0, 0}, {1, 0}, {2, 1}, {3, 1}, {99, 49}, {100, 50}, {9998, 4999}, {9999, 4999}};
        for (int[] h : halves) {
            bid(PARCEL, h[0], 999999, h[1]);
            bid(GLOVE, h[0], 999999, h[1]);
            bid(REGIMENT, h[0], 999999, 0);
            bid(HATBOX, h[0], 999999, h[1] + 5);
        }
    }

    private static void bidHundredth() {
        B.sentence("BID .. LADY: as PARCEL, and a hundredth of m. WIFE: twice as LADY.");
        int[][] rows = {
            {99, 0}, {100, 1}, {101, 1}, {199, 1}, {200, 2}, {999899, 9998}, {999900, 9999}, {999999, 9999}
        };
        for (int[] r : rows) {
            bid(LADY, 21, r[0], 10 + r[1]);
            bid(WIFE, 21, r[0], 2 * (10 + r[1]));
            bid(LADY, 0, r[0], r[1]);
            bid(WIFE, 1, r[0], 2 * r[1]);
            bid(PARCEL, 21, r[0], 10);
        }
        bid(WIFE, 9999, 999999, 2 * (4999 + 9999));
    }

    private static void bidNoMore() {
        B.sentence("BID .. (No more than m.)");
        int[][] most = {{PARCEL, 50}, {LADY, 50}, {GLOVE, 50}, {REGIMENT, 0}, {WIFE, 100}, {HATBOX, 55}};
        for (int[] k : most) {
            for (int means = 0; means < 60; means++) {
                bid(k[0], 100, means, Math.min(k[1], means));
            }
        }
        bid(WIFE, 100, 99, 99);
        bid(WIFE, 100, 101, 101);
        bid(WIFE, 100, 102, 102);
        bid(WIFE, 100, 103, 102);
        bid(HATBOX, 0, 4, 4);
        bid(HATBOX, 0, 5, 5);
        bid(HATBOX, 0, 6, 5);
    }

    private static void callAtMeans() {
        B.sentence("To CALL for a thing that is there: whose LABEL it bears pays DUE (as much as that, in MEANS)");
        int[][] rows = {{0, 0}, {0, 1}, {1, 1}, {999999, 999999}, {999998, 999999}, {50, 99}};
        for (int[] r : rows) {
            LeftTillCalled x = poor();
            left(x, WIFE, 3, r[0], 7);
            x.person(3, 0, r[1]);
            B.due("paid", x.call(0), r[0]);
            B.due("MEANS are so much less", x.personOf(3, 0), r[1] - r[0]);
            B.due("TAKEN is so much more", x.now(1), r[0]);
            B.due("DUE", x.of(0, 3), 0);
            B.due("WITH that one", x.of(0, 5), 3);
            B.due("LABEL", x.of(0, 1), 3);
            B.due("WORTH", x.of(0, 4), 7);
        }
        B.sentence("(3) whose DUE is no more than his MEANS");
        for (int means = 11; means <= 13; means++) {
            LeftTillCalled x = poor();
            left(x, PARCEL, 3, 10, NO_SALE);
            x.person(3, 0, means);
            B.due("a DAY with " + means + " for 12", x.days(1), means < 12 ? 1 : 0);
            B.due("MEANS", x.personOf(3, 0), means < 12 ? means : means - 12);
        }
    }

    private static void callsOnlyWhatIsThere() {
        B.sentence("(1) each that is there; (3) is there");
        LeftTillCalled x = poor();
        left(x, LADY, 1, 0, NO_SALE);
        x.call(0);
        x.set(0, 3, 50);
        x.person(1, 0, 500);
        x.days(14);
        B.due("DUE of one that isn't there", x.of(0, 3), 50);
        B.due("MEANS", x.personOf(1, 0), 500);
        x.set(0, 1, 2);
        x.person(2, 0, 500);
        x.days(1);
        B.due("WITH, under another's LABEL", x.of(0, 5), 1);
        B.due("MEANS of the other", x.personOf(2, 0), 500);
        x.set(0, 3, 999999);
        x.set(0, 4, 0);
        x.days(7);
        B.due("no sale of one that isn't there", x.of(0, 5), 1);
        B.due("TAKEN", x.now(1), 0);
    }

    private static void callsTheLeast() {
        B.sentence("(3) one CALLS for the least thing that bears his LABEL, .. if there is one");
        LeftTillCalled x = poor();
        left(x, PARCEL, 4, 60, NO_SALE);
        left(x, PARCEL, 3, 1, NO_SALE);
        left(x, PARCEL, 4, 49, NO_SALE);
        left(x, PARCEL, 4, 48, NO_SALE);
        left(x, PARCEL, 4, 1, NO_SALE);
        x.person(4, 0, 50);
        B.due("the least that he can pay", x.days(1), 1 + 2 + 4 + 16);
        B.due("MEANS", x.personOf(4, 0), 0);
        B.due("none that he can pay", x.days(1), 1 + 2 + 4 + 16);
        x.person(4, 0, 999);
        B.due("the least by its number", x.days(1), 2 + 4 + 16);
    }

    private static void callsOneADay() {
        B.sentence("(3) .. (one a DAY)");
        LeftTillCalled x = poor();
        for (int t = 0; t < 8; t++) {
            left(x, GLOVE, t < 4 ? 0 : 5, 0, NO_SALE);
        }
        x.person(0, 0, 999);
        x.person(5, 0, 999);
        int there = 255;
        for (int d = 0; d < 4; d++) {
            there -= 17 << d;
            B.due("one of each", x.days(1), there);
        }
        B.due("MEANS", x.personOf(0, 0), 999 - 1 - 1 - 2 - 2);
        B.due("MEANS", x.personOf(5, 0), 999 - 1 - 1 - 2 - 2);
    }

    private static void dayInOrder() {
        B.sentence("A DAY goes: (1) DUE .. (2) MEANS .. (3) one CALLS");
        LeftTillCalled x = poor();
        left(x, PARCEL, 0, 10, NO_SALE);
        Bounds.person(x, 0, 10, 1, 0);
        B.due("(1) before (3)", x.days(1), 1);
        Bounds.person(x, 0, 13, 1, 0);
        B.due("(2) before (3), earned", x.days(1), 0);
        x.leave(0);
        x.set(0, 3, 10);
        Bounds.person(x, 0, 12, 0, 1);
        B.due("(2) before (3), spent", x.days(1), 1);
        B.sentence("(3) .. DAY is 1 more. (4) If DAY is a multiple of 7 then");
        x = poor();
        x.days(6);
        left(x, PARCEL, 0, 98, 99);
        x.person(1, 0, 9);
        B.due("(1) before (4)", x.days(1), 0);
        x = poor();
        x.days(6);
        left(x, PARCEL, 0, 500, 99);
        Bounds.person(x, 1, 0, 4, 3);
        B.due("(2) before (4)", x.days(1), 0);
        B.due("MEANS", x.personOf(1, 0), 0);
        B.due("TAKEN", x.now(1), 1);
    }

    private static void saleEachSeventh() {
        B.sentence("(4) If DAY is a multiple of 7 then: a sale");
        for (int day = 0; day <= 21; day++) {
            LeftTillCalled x = poor();
            Bounds.goTo(x, day);
            left(x, PARCEL, 0, 500, 100);
            x.person(1, 0, 60);
            int till = 7 - day % 7;
            B.due("LEFT on " + day, x.gone(0), till);
            if (till > 1) {
                B.due("before the sale", x.days(till - 1), 1);
            }
            B.due("the sale", x.days(1), 0);
        }
        LeftTillCalled x = poor();
        Bounds.goTo(x, 9989);
        left(x, PARCEL, 0, 500, 100);
        x.person(1, 0, 60);
        B.due("the last sale but for ON", x.days(6), 1);
        B.due("the last sale", x.days(1), 0);
    }

    private static void saleByNumbers() {
        B.sentence("(4) things by numbers that are there and may be SOLD .. he pays what he BID");
        LeftTillCalled x = poor();
        for (int t = 0; t < 4; t++) {
            left(x, PARCEL, 0, 500, 100);
        }
        x.person(2, 0, 120);
        B.due("as long as there are MEANS", x.days(7), 8);
        B.due("TAKEN", x.now(1), 120);
        B.due("WITH him", x.personOf(2, 4), 7);
        x = poor();
        left(x, LADY, 0, 500, 0);
        left(x, LADY, 0, 500, 0);
        x.person(1, 0, 200);
        x.person(2, 0, 199);
        x.days(7);
        B.due("the first", x.of(0, 5), 1);
        B.due("a hundredth of what is left", x.of(1, 5), 1);
        B.due("MEANS", x.personOf(1, 0), 200 - 2 - 1);
    }

    private static void saleNotToLabel() {
        B.sentence("(4) of PEOPLE but whose LABEL it bears");
        for (int p = 0; p < 6; p++) {
            LeftTillCalled x = poor();
            left(x, PARCEL, p, 5000, 100);
            x.person(p, 0, 4000);
            B.due("nobody else has MEANS", x.days(7), 1);
            x.person((p + 5) % 6, 0, 1);
            B.due("somebody else has", x.days(7), 0);
            B.due("WITH", x.of(0, 5), (p + 5) % 6);
            B.due("MEANS of whose LABEL it bore", x.personOf(p, 0), 4000);
        }
    }

    private static void saleAboveNothing() {
        B.sentence("(4) who offers most (above 0");
        int[][] worths = {{PARCEL, 1, 1}, {PARCEL, 2, 0}, {GLOVE, 1, 1}, {GLOVE, 2, 0}, {HATBOX, 0, 0}, {LADY, 1, 1}, {LADY, 2, 0}};
        for (int[] w : worths) {
            LeftTillCalled x = poor();
            left(x, w[0], 0, 500, w[1]);
            x.person(1, 0, 99);
            B.due("kind " + w[0] + " of WORTH " + w[1], x.days(7), w[2]);
            B.due("TAKEN", x.now(1), w[2] == 1 ? 0 : w[0] == HATBOX ? 5 : 1);
        }
        LeftTillCalled x = poor();
        left(x, LADY, 0, 500, 0);
        x.person(1, 0, 100);
        B.due("a hundredth of 100", x.days(7), 0);
        x = poor();
        left(x, WIFE, 0, 5000, 0);
        x.person(1, 0, 99);
        B.due("twice nothing", x.days(35), 1);
    }

    private static void saleOfSeveralTheLeast() {
        B.sentence("(4) .. of several the least) gets it");
        int[][] means = {
            {0, 50, 50, 50, 50, 50, 1}, {0, 49, 50, 50, 50, 50, 2}, {0, 49, 49, 49, 49, 50, 5}, {0, 0, 0, 0, 0, 1, 5},
            {0, 999, 50, 51, 52, 53, 1}, {0, 0, 0, 60, 60, 0, 3}, {0, 3, 2, 1, 3, 3, 1}
        };
        for (int[] m : means) {
            LeftTillCalled x = poor();
            left(x, PARCEL, 0, 5000, 100);
            for (int p = 0; p < 6; p++) {
                x.person(p, 0, m[p]);
            }
            x.days(7);
            B.due("WITH", x.of(0, 5), m[6]);
        }
        LeftTillCalled x = poor();
        left(x, PARCEL, 5, 5000, 100);
        x.person(0, 0, 50);
        x.person(1, 0, 50);
        x.days(7);
        B.due("the least of all", x.of(0, 5), 0);
    }

    private static void saleHandsOver() {
        B.sentence("(4) he pays what he BID to TAKEN, DUE is 0, the thing WITH him, the LABEL his.");
        LeftTillCalled x = poor();
        x.days(2);
        left(x, HATBOX, 1, 500, 100);
        x.person(4, 0, 56);
        x.days(5);
        int[] of = {HATBOX, 4, 2, 0, 100, 4};
        for (int what = 0; what < 6; what++) {
            B.due("of(0, " + what + ")", x.of(0, what), of[what]);
        }
        B.due("MEANS", x.personOf(4, 0), 1);
        B.due("TAKEN", x.now(1), 55);
    }

    private static void saleBehindCalls() {
        B.sentence("(3) .. (4): who can CALLS for it ahead of the sale");
        for (int means = 513; means <= 515; means++) {
            LeftTillCalled x = poor();
            left(x, PARCEL, 0, 500, 100);
            x.person(1, 0, 999);
            x.days(6);
            x.person(0, 0, means);
            x.days(1);
            B.due("WITH, for " + means, x.of(0, 5), means < 514 ? 1 : 0);
        }
    }

    private static void leftAgain() {
        B.sentence("11: LEFT again, this DAY, by him (the LABEL his, DUE 0)");
        LeftTillCalled x = poor();
        left(x, WIFE, 2, 0, 77);
        x.call(0);
        x.set(0, 1, 5);
        x.set(0, 3, 999999);
        x.days(35);
        B.due("who", x.leave(0), 2);
        int[] of = {WIFE, 2, 35, 0, 77, -1, 6, 0};
        for (int what = 0; what < 8; what++) {
            B.due("of(0, " + what + ")", x.of(0, what), of[what]);
        }
        x.days(10);
        B.due("DUE mounts anew", x.of(0, 3), 60);
        B.due("MOUNTS anew", x.of(0, 6), 7);
    }

    private static void setsByBits() {
        B.sentence("Sets are told by bits.");
        LeftTillCalled x = poor();
        for (int t = 0; t < 8; t++) {
            left(x, PARCEL, t % 6, 1 + t, t == 0 || t == 7 ? 0 : 100);
        }
        B.due("there", x.now(2), 255);
        B.due("SOLD", x.now(5), 1 + 128);
        B.due("LABEL of 1", x.personOf(1, 3), 2 + 128);
        B.due("WITH 1", x.personOf(1, 4), 0);
        x.person(1, 0, 8);
        x.call(7);
        B.due("there then", x.now(2), 127);
        B.due("SOLD then", x.now(5), 1);
        B.due("LABEL of 1 then", x.personOf(1, 3), 2 + 128);
        B.due("WITH 1 then", x.personOf(1, 4), 128);
        B.due("those there", x.count(2), 7);
    }
}
