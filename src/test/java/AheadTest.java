/** Promises 14 to 25: how far ON goes, the least and the most that is tried, and of several the least. */
public final class AheadTest {
    private static final int NONE = Bounds.NONE;
    private static final int PARCEL = Bounds.PARCEL;
    private static final int LADY = Bounds.LADY;
    private static final int GLOVE = Bounds.GLOVE;
    private static final int REGIMENT = Bounds.REGIMENT;
    private static final int WIFE = Bounds.WIFE;
    private static final int HATBOX = Bounds.HATBOX;
    private static final int NO_SALE = 9999;

    private static final Bounds B = new Bounds();

    public static void main(String[] args) {
        on();
        onBehindTheLastDay();
        means();
        gone();
        comes();
        empty();
        enoughMeans();
        enoughDays();
        enoughNow();
        spendLimits();
        spendDays();
        spendStays();
        kindDays();
        kindLeast();
        kindOfOneThatIsGone();
        labelDays();
        labelLeast();
        firstDays();
        firstOfThoseThatCanBe();
        firstOfSeveral();
        worthLimits();
        worthDays();
        worthNotThere();
        most();
        B.end();
    }

    private static LeftTillCalled poor() {
        return Bounds.poor();
    }

    private static int left(LeftTillCalled x, int kind, int person, int due, int worth) {
        return Bounds.left(x, kind, person, due, worth);
    }

    /** A PARCEL that who earns 4 and has nothing calls for in half as many DAYS as DUE is pence. */
    private static LeftTillCalled catchesUp(int person, int due) {
        LeftTillCalled x = poor();
        left(x, PARCEL, person, due, NO_SALE);
        x.person(person, 1, 4);
        return x;
    }

    private static void on() {
        B.sentence("14: DUE (what 0), WITH (1; -1: there) of a THING ON n DAYS (0 to 100).");
        LeftTillCalled x = catchesUp(3, 198);
        int[][] rows = {{0, 198, -1}, {1, 200, -1}, {98, 394, -1}, {99, 0, 3}, {100, 0, 3}};
        for (int[] r : rows) {
            B.due("DUE ON " + r[0], x.on(0, r[0], 0), r[1]);
            B.due("WITH ON " + r[0], x.on(0, r[0], 1), r[2]);
        }
        x.set(0, 3, 200);
        B.due("WITH ON 99", x.on(0, 99, 1), -1);
        B.due("WITH ON 100", x.on(0, 100, 1), 3);
        x.set(0, 3, 202);
        B.due("WITH ON 100, a DAY later", x.on(0, 100, 1), -1);
        B.due("DUE ON 100", x.on(0, 100, 0), 402);
        B.due("DAY", x.now(0), 0);
    }

    /** DAY is held by days() alone: the document has no finding for ON. */
    private static void onBehindTheLastDay() {
        B.sentence("2.: ON: n DAYS go on with all as it is (on DAY 9999)");
        LeftTillCalled x = poor();
        Bounds.goTo(x, 9999);
        left(x, PARCEL, 0, 5, 1);
        B.due("DUE ON 3", x.on(0, 3, 0), 11);
        B.due("MEANS", x.means(0, 100), 0);
        x.person(4, 0, 9);
        B.due("no sale on 10002", x.on(0, 3, 1), -1);
        x.set(0, 4, 2);
        B.due("a sale on 10003", x.gone(0), 4);
        B.due("a sale on 10003", x.comes(0, 4), 4);
        B.due("DAY", x.now(0), 9999);
        B.due("findings", x.status(-1), 0);
    }

    private static void means() {
        B.sentence("15: MEANS of one ON n DAYS (0 to 100).");
        LeftTillCalled x = new LeftTillCalled();
        int[][] rows = {{0, 100}, {1, 105}, {99, 595}, {100, 600}};
        for (int[] r : rows) {
            for (int p = 0; p < 6; p++) {
                B.due("MEANS ON " + r[0], x.means(p, r[0]), r[1]);
            }
        }
        Bounds.person(x, 2, 999900, 1, 0);
        B.due("MEANS ON 98", x.means(2, 98), 999998);
        B.due("MEANS ON 99", x.means(2, 99), 999999);
        B.due("MEANS ON 100, held", x.means(2, 100), 999999);
        Bounds.person(x, 2, 99, 0, 1);
        B.due("MEANS ON 98", x.means(2, 98), 1);
        B.due("MEANS ON 99", x.means(2, 99), 0);
        B.due("MEANS ON 100, 0 at least", x.means(2, 100), 0);
    }

    private static void gone() {
        B.sentence("16: In how many DAYS (0 to 200) ON a THING isn't there first. NONE.");
        int[][] rows = {{2, 1}, {3, 2}, {4, 2}, {398, 199}, {399, 200}, {400, 200}, {401, NONE}, {402, NONE}};
        for (int[] r : rows) {
            B.due("DUE " + r[0], catchesUp(1, r[0]).gone(0), r[1]);
        }
        LeftTillCalled x = catchesUp(1, 400);
        x.person(1, 0, 400);
        x.call(0);
        B.due("it isn't there", x.gone(0), 0);
        x = poor();
        Bounds.goTo(x, 3);
        left(x, PARCEL, 0, 0, 399);
        x.person(2, 0, 8);
        B.due("at the sale on 203", x.gone(0), 200);
        x.set(0, 4, 400);
        B.due("not yet", x.gone(0), NONE);
    }

    private static void comes() {
        B.sentence("17: In how many DAYS (0 to 200) ON a THING is WITH one first. NONE.");
        int[][] rows = {{2, 1}, {398, 199}, {400, 200}, {401, NONE}};
        for (int[] r : rows) {
            LeftTillCalled x = catchesUp(5, r[0]);
            B.due("DUE " + r[0], x.comes(0, 5), r[1]);
            B.due("to another", x.comes(0, 4), NONE);
        }
        LeftTillCalled x = poor();
        left(x, PARCEL, 2, 0, 1);
        x.call(0);
        for (int p = 0; p < 6; p++) {
            B.due("it is WITH 2, " + p, x.comes(0, p), p == 2 ? 0 : NONE);
        }
        x.set(0, 1, 4);
        B.due("the LABEL counts not", x.comes(0, 4), NONE);
        B.due("the LABEL counts not", x.comes(0, 2), 0);
    }

    private static void empty() {
        B.sentence("18: In how many DAYS (0 to 200) ON nothing is there first. NONE.");
        B.due("nothing was LEFT", poor().empty(), 0);
        int[][] rows = {{2, 1}, {398, 199}, {400, 200}, {401, NONE}};
        for (int[] r : rows) {
            LeftTillCalled x = catchesUp(5, r[0]);
            B.due("DUE " + r[0], x.empty(), r[1]);
            left(x, GLOVE, 0, 0, NO_SALE);
            x.person(0, 0, 1);
            B.due("one goes sooner", x.empty(), r[1]);
            x.person(0, 0, 0);
            B.due("one stays", x.empty(), NONE);
            x.call(1);
            B.due("one is gone", x.empty(), r[1]);
        }
    }

    private static void enoughMeans() {
        B.sentence("19: The least MEANS (0 to 999) now with which a THING is WITH one. NONE.");
        int[][] rows = {{0, 2}, {1, 3}, {996, 998}, {997, 999}, {998, NONE}, {999999, NONE}};
        for (int[] r : rows) {
            LeftTillCalled x = poor();
            left(x, PARCEL, 4, r[0], NO_SALE);
            B.due("for DUE " + r[0], x.enough(0, 4, 1), r[1]);
            x.person(4, 0, 999999);
            B.due("whatever he has", x.enough(0, 4, 1), r[1]);
            x.person(4, 1, 2);
            B.due("with EARNS", x.enough(0, 4, 1), r[0] == 998 ? 998 : r[0] == 999999 ? NONE : r[1] - 2);
        }
        LeftTillCalled x = poor();
        left(x, PARCEL, 4, 0, NO_SALE);
        x.person(4, 1, 2);
        B.due("nothing at all", x.enough(0, 4, 1), 0);
        x.person(4, 2, 1);
        B.due("a penny", x.enough(0, 4, 1), 1);
    }

    private static void enoughDays() {
        B.sentence("19: .. ON n DAYS (1 to 60)");
        int[][] rows = {
            {1, 120, 118}, {2, 120, 116}, {59, 120, 2}, {60, 120, 0}, {60, 121, 1}, {60, 1119, 999}, {60, 1120, NONE},
            {59, 1117, 999}, {59, 1118, NONE}
        };
        for (int[] r : rows) {
            B.due("DUE " + r[1] + " within " + r[0], catchesUp(2, r[1]).enough(0, 2, r[0]), r[2]);
        }
        LeftTillCalled x = poor();
        Bounds.goTo(x, 3);
        left(x, PARCEL, 0, 0, 119);
        B.due("a sale on DAY 63", x.enough(0, 1, 60), 1);
        B.due("none on DAY 62", x.enough(0, 1, 59), NONE);
        x.set(0, 4, 120);
        B.due("no sale on DAY 63", x.enough(0, 1, 60), NONE);
    }

    private static void enoughNow() {
        B.sentence("19: .. a THING is WITH one (that isn't there, or not by more MEANS)");
        LeftTillCalled x = poor();
        left(x, PARCEL, 1, 0, NO_SALE);
        x.call(0);
        B.due("it is WITH him", x.enough(0, 1, 1), 0);
        B.due("it is WITH another", x.enough(0, 2, 60), NONE);
        x = poor();
        left(x, GLOVE, 0, 400, 100);
        x.person(2, 0, 30);
        B.due("as much as a later one", x.enough(0, 1, 7), 30);
        B.due("more than a former one", x.enough(0, 3, 7), 31);
        x.person(2, 0, 50);
        B.due("no one offers more than half of WORTH", x.enough(0, 3, 7), NONE);
        B.due("whose LABEL it bears", x.enough(0, 0, 7), 401);
    }

    private static void spendLimits() {
        B.sentence("20: The greatest SPENDS (0 to 99) of one with which a THING is WITH him. NONE.");
        int[][] rows = {{1, NONE}, {2, 0}, {3, 1}, {100, 98}, {101, 99}, {102, 99}, {999999, 99}};
        for (int[] r : rows) {
            LeftTillCalled x = poor();
            left(x, PARCEL, 4, 0, NO_SALE);
            x.person(4, 0, r[0]);
            B.due("with " + r[0], x.spend(0, 4, 1), r[1]);
            x.person(4, 2, 999);
            B.due("whatever he SPENDS", x.spend(0, 4, 1), r[1]);
            B.due("SPENDS", x.personOf(4, 2), 999);
        }
    }

    private static void spendDays() {
        B.sentence("20: .. ON n DAYS (1 to 60)");
        int[][] rows = {{1, 1, 1}, {2, 0, 1}, {3, NONE, 1}, {120, 0, 60}, {118, 0, 59}, {122, NONE, 60}, {120, NONE, 59}, {60, 1, 60}, {61, 0, 60}};
        for (int[] r : rows) {
            B.due("DUE " + r[0] + " within " + r[2], catchesUp(2, r[0]).spend(0, 2, r[2]), r[1]);
        }
    }

    private static void spendStays() {
        B.sentence("20: .. a THING is WITH him (that isn't there, or by a sale)");
        LeftTillCalled x = poor();
        left(x, PARCEL, 1, 0, NO_SALE);
        x.call(0);
        B.due("it is WITH him", x.spend(0, 1, 60), 99);
        B.due("it is WITH another", x.spend(0, 2, 60), NONE);
        x = poor();
        left(x, PARCEL, 0, 500, 100);
        x.person(1, 0, 71);
        B.due("a penny at the sale", x.spend(0, 1, 7), 10);
        B.due("no sale", x.spend(0, 1, 6), NONE);
        x.person(2, 0, 9);
        B.due("as much as a later one", x.spend(0, 1, 7), 8);
        x.person(0, 0, 29);
        x.set(0, 1, 3);
        B.due("more than a former one", x.spend(0, 1, 7), 5);
    }

    private static void kindDays() {
        B.sentence("21: The KIND as one of which a THING is WITH one soonest (within 100 DAYS). NONE.");
        int[][] rows = {{346, GLOVE}, {350, GLOVE}, {351, NONE}};
        for (int[] r : rows) {
            for (int kind = 0; kind < 6; kind++) {
                LeftTillCalled x = catchesUp(2, r[0]);
                x.turn(0, kind);
                B.due("with DUE " + r[0] + " of kind " + kind, x.kind(0, 2), r[1]);
                B.due("KIND", x.of(0, 0), kind);
            }
        }
        LeftTillCalled x = poor();
        Bounds.goTo(x, 5);
        left(x, REGIMENT, 0, 0, 99);
        x.person(3, 0, 9);
        B.due("by a sale", x.kind(0, 3), LADY);
        x.set(0, 4, 1049);
        B.due("a wife, at the sale on DAY 105, 100 on, with DUE 600 + 450", x.kind(0, 3), WIFE);
        x.set(0, 4, 1050);
        B.due("nothing within 100", x.kind(0, 3), NONE);
        x = poor();
        Bounds.goTo(x, 4);
        left(x, REGIMENT, 0, 0, 959);
        x.person(3, 0, 9);
        B.due("a wife, at the sale on DAY 98, with DUE 564 + 396", x.kind(0, 3), WIFE);
        x.set(0, 4, 960);
        B.due("the sale on DAY 105 is too late", x.kind(0, 3), NONE);
    }

    private static void kindLeast() {
        B.sentence("21: .. of several the least.");
        LeftTillCalled x = poor();
        left(x, HATBOX, 4, 10, NO_SALE);
        int[][] rows = {{11, GLOVE}, {12, PARCEL}, {16, PARCEL}, {999, PARCEL}, {10, NONE}};
        for (int[] r : rows) {
            x.person(4, 0, r[0]);
            B.due("with " + r[0], x.kind(0, 4), r[1]);
        }
        x = poor();
        left(x, PARCEL, 0, 500, 100);
        x.person(1, 0, 50);
        x.person(2, 0, 54);
        B.due("a parcel goes to 1", x.kind(0, 1), PARCEL);
        B.due("a hatbox to 2", x.kind(0, 2), HATBOX);
        x.person(2, 0, 150);
        B.due("a lady to 2", x.kind(0, 2), LADY);
    }

    private static void kindOfOneThatIsGone() {
        B.sentence("21: .. a THING is WITH one (already)");
        LeftTillCalled x = poor();
        left(x, WIFE, 3, 0, NO_SALE);
        x.call(0);
        for (int p = 0; p < 6; p++) {
            B.due("it is WITH 3, " + p, x.kind(0, p), p == 3 ? PARCEL : NONE);
        }
    }

    private static void labelDays() {
        B.sentence("22: Whose LABEL (0 to 5) .. to be gone soonest (within 100 DAYS). NONE.");
        for (int p = 0; p < 6; p++) {
            int[][] rows = {{196, p}, {200, p}, {201, NONE}};
            for (int[] r : rows) {
                LeftTillCalled x = catchesUp(p, r[0]);
                x.set(0, 1, (p + 1) % 6);
                B.due("DUE " + r[0] + ", " + p, x.label(0), r[1]);
                B.due("LABEL", x.of(0, 1), (p + 1) % 6);
            }
        }
        LeftTillCalled x = poor();
        Bounds.goTo(x, 5);
        left(x, PARCEL, 0, 0, 199);
        x.person(0, 0, 1);
        B.due("a sale on DAY 105", x.label(0), 1);
        x.set(0, 4, 200);
        B.due("none on DAY 105", x.label(0), NONE);
        x = poor();
        Bounds.goTo(x, 4);
        left(x, PARCEL, 0, 2, 203);
        x.person(0, 0, 1);
        B.due("a sale on DAY 105 is too late", x.label(0), NONE);
    }

    private static void labelLeast() {
        B.sentence("22: .. of several the least.");
        LeftTillCalled x = poor();
        left(x, PARCEL, 5, 10, NO_SALE);
        for (int p = 5; p >= 0; p--) {
            x.person(p, 0, 12);
            B.due("from " + p + " on all can", x.label(0), p);
        }
        x.person(0, 0, 11);
        B.due("not a later day's", x.label(0), 1);
        x.person(0, 1, 1);
        B.due("the first day's", x.label(0), 0);
        x = poor();
        left(x, PARCEL, 5, 5000, 10);
        x.person(4, 0, 1);
        B.due("gone by a sale", x.label(0), 0);
        x = poor();
        left(x, PARCEL, 5, 5000, 10);
        x.person(0, 0, 1);
        B.due("gone by a sale, but not under his own", x.label(0), 1);
    }

    private static void firstDays() {
        B.sentence("23: .. most are WITH him ON n DAYS (1 to 60): 1 and its number, or 0, if none now is as good");
        LeftTillCalled x = poor();
        Bounds.goTo(x, 3);
        left(x, PARCEL, 2, 10, NO_SALE);
        left(x, PARCEL, 4, 0, 119);
        x.person(2, 0, 10);
        B.due("ON 1", x.first(2, 1), 1);
        B.due("before the sale on DAY 63", x.first(2, 59), 1);
        B.due("with that sale", x.first(2, 60), 0);
        x.set(1, 4, 120);
        B.due("without it", x.first(2, 60), 1);
    }

    private static void firstOfThoseThatCanBe() {
        B.sentence("23: The THING that one had best CALL for now (of those that can be)");
        for (int means = 9; means <= 11; means++) {
            LeftTillCalled x = poor();
            left(x, PARCEL, 2, 10, NO_SALE);
            x.person(2, 0, means);
            B.due("with " + means, x.first(2, 60), means < 10 ? 0 : 1);
            x.person(2, 0, 12);
            B.due("he calls tomorrow", x.first(2, 60), 0);
            x.person(2, 0, means);
            x.set(0, 1, 3);
            B.due("another's", x.first(2, 60), 0);
        }
        LeftTillCalled x = poor();
        left(x, PARCEL, 2, 0, NO_SALE);
        x.call(0);
        B.due("it is WITH him", x.first(2, 60), 0);
        B.due("nothing was LEFT", poor().first(0, 1), 0);
    }

    private static void firstOfSeveral() {
        B.sentence("23: .. of several the least.");
        LeftTillCalled x = poor();
        for (int t = 0; t < 8; t++) {
            left(x, PARCEL, t == 0 ? 1 : 2, t < 2 ? 11 : 10, NO_SALE);
        }
        x.person(2, 0, 10);
        B.due("of six", x.first(2, 60), 3);
        for (int t = 2; t < 7; t++) {
            x.set(t, 3, 11);
            B.due("of fewer", x.first(2, 60), 2 + t);
        }
        x.set(7, 3, 11);
        B.due("of none", x.first(2, 60), 0);
        x.set(6, 3, 3);
        x.set(7, 3, 2);
        B.due("two at last: now 7th and 8th", x.first(2, 60), 7);
        x.person(2, 0, 7);
        B.due("two at last: the one that mounts not", x.first(2, 60), 7);
        x.person(2, 0, 6);
        B.due("but one is not more", x.first(2, 60), 0);
    }

    private static void worthLimits() {
        B.sentence("24: The least WORTH (0 to 999) with which a THING is there still. NONE.");
        int[][] rows = {{0, 42}, {956, 998}, {957, 999}, {958, NONE}, {999999, NONE}};
        for (int[] r : rows) {
            LeftTillCalled x = poor();
            left(x, LADY, 0, r[0], 5000);
            x.person(3, 0, 100);
            B.due("with DUE " + r[0], x.worth(0, 7), r[1]);
            x.turn(0, PARCEL);
            B.due("nobody offers for 0", x.worth(0, 7), 0);
            B.due("WORTH", x.of(0, 4), 5000);
        }
        LeftTillCalled x = poor();
        left(x, GLOVE, 0, 495, 5000);
        x.person(3, 0, 100);
        x.turn(0, HATBOX);
        B.due("twice 495 and what mounts", x.worth(0, 7), NONE);
        x.set(0, 3, 488);
        B.due("twice 499", x.worth(0, 7), 998);
        x.person(0, 0, 499);
        B.due("called for whatever it is worth", x.worth(0, 7), NONE);
    }

    private static void worthDays() {
        B.sentence("24: .. ON n DAYS (1 to 60)");
        LeftTillCalled x = poor();
        Bounds.goTo(x, 3);
        left(x, LADY, 0, 10, 100);
        x.person(3, 0, 100);
        int[][] rows = {{1, 0}, {3, 0}, {4, 34}, {5, 34}, {10, 34}, {11, 76}, {59, 10 + 6 * 53}, {60, 10 + 6 * 60}};
        for (int[] r : rows) {
            B.due("ON " + r[0], x.worth(0, r[0]), r[1]);
        }
        x.set(0, 3, 639);
        B.due("just", x.worth(0, 60), 999);
        x.set(0, 3, 640);
        B.due("too much", x.worth(0, 60), NONE);
    }

    private static void worthNotThere() {
        B.sentence("24: .. is there still (one that isn't)");
        LeftTillCalled x = poor();
        left(x, LADY, 0, 0, 100);
        B.due("it is there", x.worth(0, 1), 0);
        x.call(0);
        B.due("it isn't", x.worth(0, 1), NONE);
        x.leave(0);
        B.due("it is again", x.worth(0, 60), 0);
        x.turn(0, REGIMENT);
        x.person(0, 0, 101);
        B.due("too dear for him from 9900 on", x.worth(0, 1), NONE);
        x.person(0, 0, 10);
        B.due("too dear for him from 900 on", x.worth(0, 1), 900);
        x.person(0, 0, 11);
        B.due("too dear for him from 1000 on", x.worth(0, 1), NONE);
    }

    private static void most() {
        B.sentence("25: With whom most things are ON n DAYS (0 to 100); of several the least.");
        B.due("nothing was LEFT", poor().most(0), 0);
        B.due("nothing was LEFT", poor().most(100), 0);
        int[][] rows = {{198, 3, 3}, {200, 0, 3}, {202, 0, 0}};
        for (int[] r : rows) {
            LeftTillCalled x = catchesUp(3, r[0]);
            B.due("DUE " + r[0] + " ON 0", x.most(0), 0);
            B.due("DUE " + r[0] + " ON 99", x.most(99), r[1]);
            B.due("DUE " + r[0] + " ON 100", x.most(100), r[2]);
        }
        LeftTillCalled x = poor();
        for (int t = 0; t < 8; t++) {
            left(x, PARCEL, 5 - t % 3, 0, NO_SALE);
        }
        int[] most = {4, 4, 3, 4, 4, 3, 4, 4};
        for (int t = 7; t >= 0; t--) {
            x.call(t);
            B.due("called from " + t + " on", x.most(0), most[t]);
        }
        for (int p = 0; p < 6; p++) {
            LeftTillCalled y = poor();
            left(y, PARCEL, p, 0, NO_SALE);
            y.call(0);
            B.due("one, WITH " + p, y.most(0), p);
        }
        B.due("3 of 5, 3 of 4, 2 of 3", x.most(0), 4);
        B.due("so on", x.most(100), 4);
    }
}
