/** Sheets, images and counts (promises 29 to 39): ends of sheets, numbers that wrap around, what is kept. */
public final class SheetTest {
    private static final int BEYOND = Bounds.BEYOND;
    private static final int NONE = Bounds.NONE;
    private static final int MISSING = Bounds.MISSING;
    private static final int PARCEL = Bounds.PARCEL;
    private static final int LADY = Bounds.LADY;
    private static final int GLOVE = Bounds.GLOVE;
    private static final int REGIMENT = Bounds.REGIMENT;
    private static final int NO_SALE = 9999;

    private static final Bounds B = new Bounds();

    public static void main(String[] args) {
        missingAtFirst();
        asManyAsAsked();
        allNought();
        missingAgain();
        lowestBits();
        copyEnds();
        copyAsTheyAllWere();
        copyToAnother();
        laysRange();
        laysForNone();
        laysOfFewBits();
        bookLengths();
        bookLowestBits();
        readLengths();
        readJustSo();
        readMoreThanItsBits();
        imageKeeps();
        imageKeepsNot();
        undoStays();
        tears();
        counts();
        statusOfEach();
        findingsInLongs();
        B.end();
    }

    private static void missingAtFirst() {
        B.sentence("3.: SHEETS 0 to 3 .. or MISSING (at first)");
        LeftTillCalled x = new LeftTillCalled();
        x.thing(PARCEL, 0);
        for (int s = 0; s < 4; s++) {
            B.due("write", x.write(s, 0, 1), MISSING);
            B.due("lays", x.lays(s), MISSING);
            B.due("book", x.book(s, 0), MISSING);
            B.due("read", x.read(s, 0), MISSING);
            B.due("copy", x.copy(s, 0, s, 0, 0), MISSING);
        }
        B.due("findings", x.status(5), 20);
    }

    private static void asManyAsAsked() {
        B.sentence("29: A sheet has n numbers (.. at most 40)");
        for (int bits : new int[] {8, 16, 64}) {
            for (int n : new int[] {0, 1, 2, 39, 40}) {
                LeftTillCalled x = new LeftTillCalled();
                B.due("sheet", x.sheet(3, bits, n), n);
                B.due("behind the last", x.write(3, n, 1), BEYOND);
                B.due("before the first", x.write(3, -1, 1), BEYOND);
                for (int i = 0; i < n; i++) {
                    B.due("number " + i, x.write(3, i, i + 1), 0);
                }
                for (int i = 0; i < n; i++) {
                    B.due("number " + i + " then", x.write(3, i, 0), i + 1);
                }
                B.due("another sheet", x.write(2, 0, 1), MISSING);
            }
        }
    }

    private static void allNought() {
        B.sentence("29: .. all 0");
        int[][] anew = {{8, 40}, {16, 40}, {64, 40}, {8, 1}, {64, 3}};
        for (int[] a : anew) {
            LeftTillCalled x = new LeftTillCalled();
            x.sheet(1, 64, 40);
            for (int i = 0; i < 40; i++) {
                x.write(1, i, -1);
            }
            B.due("anew", x.sheet(1, a[0], a[1]), a[1]);
            for (int i = 0; i < a[1]; i++) {
                B.due("number " + i, x.write(1, i, -1), 0);
            }
            B.due("anew, as long as can be", x.sheet(1, a[0], 40), 40);
            for (int i = 0; i < 40; i++) {
                B.due("number " + i, x.write(1, i, -1), 0);
            }
        }
    }

    private static void missingAgain() {
        B.sentence("29: bits 0: it is MISSING: n (0 if it is MISSING)");
        for (int n : new int[] {0, 1, 39, 40}) {
            LeftTillCalled x = new LeftTillCalled();
            x.sheet(2, 16, 5);
            x.write(2, 4, 9);
            B.due("0 for " + n, x.sheet(2, 0, n), 0);
            B.due("it is MISSING", x.write(2, 0, 1), MISSING);
            B.due("still so", x.sheet(2, 0, n), 0);
            B.due("it is MISSING", x.lays(2), MISSING);
            B.due("back", x.sheet(2, 16, 5), 5);
            B.due("all 0", x.write(2, 4, 1), 0);
        }
    }

    private static void lowestBits() {
        B.sentence("30: Number i of a sheet becomes v (its lowest bits): what it was.");
        long[][] eight = {
            {0, 0}, {1, 1}, {126, 126}, {127, 127}, {128, -128}, {129, -127}, {255, -1}, {256, 0}, {257, 1}, {383, 127},
            {384, -128}, {-1, -1}, {-128, -128}, {-129, 127}, {-256, 0}, {Long.MAX_VALUE, -1}, {Long.MIN_VALUE, 0},
            {1L << 32, 0}, {(1L << 32) + 128, -128}
        };
        long[][] sixteen = {
            {127, 127}, {128, 128}, {255, 255}, {256, 256}, {32766, 32766}, {32767, 32767}, {32768, -32768},
            {65535, -1}, {65536, 0}, {65537, 1}, {-1, -1}, {-32768, -32768}, {-32769, 32767}, {Long.MAX_VALUE, -1},
            {Long.MIN_VALUE, 0}
        };
        long[][] all = {
            {65536, 65536}, {1L << 31, 1L << 31}, {1L << 32, 1L << 32}, {-1, -1}, {Integer.MIN_VALUE, Integer.MIN_VALUE},
            {Long.MAX_VALUE, Long.MAX_VALUE}, {Long.MIN_VALUE, Long.MIN_VALUE}, {Long.MIN_VALUE + 1, Long.MIN_VALUE + 1}
        };
        comesBack(8, eight);
        comesBack(16, sixteen);
        comesBack(64, all);
    }

    private static void comesBack(int bits, long[][] rows) {
        LeftTillCalled x = new LeftTillCalled();
        x.sheet(0, bits, 3);
        for (long[] r : rows) {
            x.write(0, 1, r[0]);
            B.due(r[0] + " in " + bits + " bits", x.write(0, 1, 5), r[1]);
            B.due("the one before", x.write(0, 0, 0), 0);
            B.due("the one behind", x.write(0, 2, 0), 0);
        }
        B.due("findings", x.status(-1), 0);
    }

    private static LeftTillCalled twoSheets(int bits, int first, int second) {
        LeftTillCalled x = new LeftTillCalled();
        x.sheet(0, bits, first);
        x.sheet(1, bits, second);
        for (int i = 0; i < first; i++) {
            x.write(0, i, 10 + i);
        }
        for (int i = 0; i < second; i++) {
            x.write(1, i, 60 + i);
        }
        return x;
    }

    private static void rowIs(LeftTillCalled x, int s, int... want) {
        for (int i = 0; i < want.length; i++) {
            B.due("number " + i + " of sheet " + s, x.write(s, i, want[i]), want[i]);
        }
    }

    private static void copyEnds() {
        B.sentence("31: BEYOND: one has not so many, or from, to or n is below 0.");
        int[][] rows = {
            {0, 0, 3, 3}, {1, 0, 3, 3}, {2, 0, 3, 3}, {3, 0, 3, BEYOND}, {3, 0, 2, 2}, {4, 0, 1, 1}, {5, 0, 1, BEYOND},
            {5, 0, 0, 0}, {6, 0, 0, BEYOND}, {0, 0, 4, BEYOND}, {0, 1, 3, BEYOND}, {0, 1, 2, 2}, {0, 2, 1, 1},
            {0, 3, 1, BEYOND}, {0, 3, 0, 0}, {0, 4, 0, BEYOND}, {-1, 0, 0, BEYOND}, {0, -1, 0, BEYOND},
            {0, 0, -1, BEYOND}, {-1, 0, 1, BEYOND}, {0, -1, 1, BEYOND}, {5, 3, 0, 0}
        };
        for (int bits : new int[] {8, 16, 64}) {
            for (int[] r : rows) {
                LeftTillCalled x = twoSheets(bits, 5, 3);
                B.due("copy(0, " + r[0] + ", 1, " + r[1] + ", " + r[2] + ")", x.copy(0, r[0], 1, r[1], r[2]), r[3]);
                int[] want = {60, 61, 62};
                for (int i = 0; i < r[3]; i++) {
                    want[r[1] + i] = 10 + r[0] + i;
                }
                rowIs(x, 1, want);
                rowIs(x, 0, 10, 11, 12, 13, 14);
            }
        }
    }

    private static void copyAsTheyAllWere() {
        B.sentence("31: n numbers of a sheet .. come to another one (as they all were)");
        int[][] rows = {
            {0, 1, 4, 10, 10, 11, 12, 13}, {1, 0, 4, 11, 12, 13, 14, 14}, {0, 2, 3, 10, 11, 10, 11, 12},
            {2, 0, 3, 12, 13, 14, 13, 14}, {0, 0, 5, 10, 11, 12, 13, 14}, {0, 4, 1, 10, 11, 12, 13, 10},
            {4, 0, 1, 14, 11, 12, 13, 14}, {2, 2, 3, 10, 11, 12, 13, 14}, {5, 5, 0, 10, 11, 12, 13, 14}
        };
        for (int[] r : rows) {
            LeftTillCalled x = twoSheets(16, 5, 3);
            B.due("n", x.copy(0, r[0], 0, r[1], r[2]), r[2]);
            rowIs(x, 0, r[3], r[4], r[5], r[6], r[7]);
        }
        LeftTillCalled x = twoSheets(64, 40, 40);
        B.due("all of them", x.copy(0, 0, 1, 0, 40), 40);
        for (int i = 0; i < 40; i++) {
            B.due("number " + i, x.write(1, i, 0), 10 + i);
            B.due("it stays in the other", x.write(0, i, 0), 10 + i);
        }
    }

    private static void copyToAnother() {
        B.sentence("31: KIND: they are not of as many bits.");
        int[] bits = {8, 16, 64};
        for (int a : bits) {
            for (int b : bits) {
                LeftTillCalled x = new LeftTillCalled();
                x.sheet(0, a, 2);
                x.sheet(3, b, 2);
                x.write(0, 0, -7);
                B.due(a + " bits to " + b, x.copy(0, 0, 3, 0, 2), a == b ? 2 : Bounds.KIND);
                B.due("what came", x.write(3, 0, 0), a == b ? -7 : 0);
            }
        }
    }

    private static void laysRange() {
        B.sentence("32: (those that aren't 0 to 999999 .. are left out): how many came");
        long[] v = {-1, 0, 999999, 1000000, Long.MAX_VALUE, Long.MIN_VALUE};
        int[] means = {100, 0, 999999, 100, 100, 100};
        LeftTillCalled x = new LeftTillCalled();
        x.sheet(0, 64, 6);
        for (int i = 0; i < 6; i++) {
            x.write(0, i, v[i]);
        }
        B.due("two came", x.lays(0), 2);
        for (int p = 0; p < 6; p++) {
            B.due("MEANS of " + p, x.personOf(p, 0), means[p]);
            B.due("EARNS of " + p, x.personOf(p, 1), 10);
            B.due("SPENDS of " + p, x.personOf(p, 2), 5);
        }
        for (int p = 0; p < 6; p++) {
            x.write(0, p, (1L << 32) + 7);
        }
        B.due("none by their lowest bits", x.lays(0), 0);
        for (int p = 0; p < 6; p++) {
            x.write(0, p, 5 - p);
        }
        B.due("all came", x.lays(0), 6);
        B.due("the first", x.personOf(0, 0), 5);
        B.due("the last", x.personOf(5, 0), 0);
    }

    private static void laysForNone() {
        B.sentence("32: (those that .. stand for none, are left out)");
        for (int n : new int[] {0, 1, 5, 6, 7, 40}) {
            LeftTillCalled x = new LeftTillCalled();
            x.sheet(0, 16, n);
            for (int i = 0; i < n; i++) {
                x.write(0, i, 1 + i);
            }
            B.due("so many came of " + n, x.lays(0), Math.min(n, 6));
            for (int p = 0; p < 6; p++) {
                B.due("MEANS of " + p, x.personOf(p, 0), p < n ? 1 + p : 100);
            }
            B.due("findings", x.status(-1), 0);
        }
    }

    private static void laysOfFewBits() {
        B.sentence("32: Numbers of a sheet become MEANS (of 8 and 16 bits)");
        LeftTillCalled x = new LeftTillCalled();
        x.sheet(0, 8, 3);
        x.write(0, 0, 127);
        x.write(0, 1, 128);
        x.write(0, 2, 256);
        B.due("127 and 0", x.lays(0), 2);
        B.due("MEANS of 0", x.personOf(0, 0), 127);
        B.due("MEANS of 1", x.personOf(1, 0), 100);
        B.due("MEANS of 2", x.personOf(2, 0), 0);
        x.sheet(1, 16, 2);
        x.write(1, 0, 32767);
        x.write(1, 1, 32768);
        B.due("32767", x.lays(1), 1);
        B.due("MEANS of 0", x.personOf(0, 0), 32767);
        B.due("MEANS of 1", x.personOf(1, 0), 100);
    }

    private static LeftTillCalled booked(int bits, int n, int kind, int due) {
        LeftTillCalled x = Bounds.poor();
        Bounds.left(x, kind, 0, due, NO_SALE);
        x.sheet(2, bits, n);
        B.due("so many", x.book(2, 0), n);
        return x;
    }

    private static void bookLengths() {
        B.sentence("33: DUE of a THING ON 0, 1, 2, .. DAYS comes to a sheet, as many as it has numbers: how many.");
        for (int n : new int[] {0, 1, 2, 39, 40}) {
            LeftTillCalled x = booked(16, n, PARCEL, 7);
            for (int i = 0; i < n; i++) {
                B.due("DUE ON " + i, x.write(2, i, 0), 7 + 2 * i);
            }
            B.due("behind the last", x.write(2, n, 0), BEYOND);
            B.due("DAY", x.now(0), 0);
            B.due("DUE", x.of(0, 3), 7);
        }
        LeftTillCalled x = Bounds.poor();
        Bounds.left(x, PARCEL, 1, 78, NO_SALE);
        x.person(1, 1, 4);
        x.sheet(0, 64, 40);
        x.book(0, 0);
        B.due("DUE ON 38", x.write(0, 38, 0), 78 + 76);
        B.due("called for ON 39", x.write(0, 39, 0), 0);
        x.person(1, 0, 78);
        x.call(0);
        x.set(0, 3, 44);
        x.book(0, 0);
        B.due("DUE of one that isn't there", x.write(0, 0, 0), 44);
        B.due("DUE of one that isn't there", x.write(0, 39, 0), 44);
    }

    private static void bookLowestBits() {
        B.sentence("33: .. comes to a sheet (its lowest bits)");
        int[][] rows = {
            {8, 125, 125, 127}, {8, 126, 126, -128}, {8, 254, -2, 0}, {8, 255, -1, 1}, {8, 999999, 63, 63},
            {16, 32765, 32765, 32767}, {16, 32766, 32766, -32768}, {16, 65534, -2, 0}, {16, 999999, 16959, 16959},
            {64, 65534, 65534, 65536}, {64, 999998, 999998, 999999}
        };
        for (int[] r : rows) {
            LeftTillCalled x = booked(r[0], 2, PARCEL, r[1]);
            B.due("DUE " + r[1] + " in " + r[0] + " bits", x.write(2, 0, 0), r[2]);
            B.due("a DAY on", x.write(2, 1, 0), r[3]);
        }
    }

    private static void readLengths() {
        B.sentence("34: how many pairs of a KIND and a LABEL (0 to 5) of it make it just so (0, 1, 40 numbers)");
        LeftTillCalled x = booked(64, 0, PARCEL, 50);
        B.due("of no numbers all pairs", x.read(2, 0), 36);
        x = booked(64, 1, PARCEL, 50);
        B.due("of one all pairs", x.read(2, 0), 36);
        x.write(2, 0, 49);
        B.due("a penny less", x.read(2, 0), 0);
        x.write(2, 0, 51);
        B.due("a penny more", x.read(2, 0), 0);
        x = booked(64, 2, PARCEL, 50);
        B.due("2 more: a parcel, a hatbox", x.read(2, 0), 12);
        x = booked(64, 3, PARCEL, 50);
        B.due("then 2 more: a parcel", x.read(2, 0), 6);
        x = booked(64, 11, LADY, 50);
        B.due("6 more: a lady, a wife", x.read(2, 0), 12);
        x = booked(64, 12, LADY, 50);
        B.due("6 more on the 11th: a lady", x.read(2, 0), 6);
        x = booked(64, 40, GLOVE, 50);
        B.due("40 numbers: a glove", x.read(2, 0), 6);
        x.write(2, 39, 51);
        B.due("not the last of them", x.read(2, 0), 0);
    }

    private static void readJustSo() {
        B.sentence("34: .. pairs of a KIND and a LABEL");
        LeftTillCalled x = Bounds.poor();
        Bounds.left(x, REGIMENT, 5, 10, 100);
        x.sheet(1, 16, 2);
        x.person(0, 0, 12);
        x.person(5, 0, 13);
        x.book(1, 0);
        B.due("13 called for: 5 for all but a lady and a wife, 0 for 11 or 12", x.read(1, 0), 4 + 3);
        x.set(0, 1, 1);
        x.book(1, 0);
        B.due("13 not called for: by 0 to 4", x.read(1, 0), 5);
        B.due("KIND", x.of(0, 0), REGIMENT);
        B.due("LABEL", x.of(0, 1), 1);
        x.set(0, 3, 0);
        x.call(0);
        x.set(0, 3, 9);
        x.book(1, 0);
        B.due("one that isn't there", x.read(1, 0), 36);
        x.write(1, 1, 10);
        B.due("one that isn't there mounts not", x.read(1, 0), 0);
    }

    private static void readMoreThanItsBits() {
        B.sentence("34: numbers of a sheet are DUE of a THING");
        int[][] rows = {{8, 127, 36}, {8, 128, 0}, {8, 256, 0}, {16, 32767, 36}, {16, 32768, 0}, {16, 65536, 0}, {64, 999999, 36}};
        for (int[] r : rows) {
            B.due(r[1] + " in " + r[0] + " bits", booked(r[0], 1, PARCEL, r[1]).read(2, 0), r[2]);
        }
        LeftTillCalled x = booked(64, 1, PARCEL, 7);
        x.write(2, 0, (1L << 32) + 7);
        B.due("not by the lowest bits", x.read(2, 0), 0);
    }

    private static void imageKeeps() {
        B.sentence("35: All that section 1 tells (THE TAPE not) is kept: 1.");
        LeftTillCalled x = Bounds.rich();
        LeftTillCalled twin = Bounds.rich();
        B.due("kept", x.image(), 1);
        B.due("kept", twin.image(), 1);
        x.thing(PARCEL, 0);
        x.leave(1);
        x.turn(2, LADY);
        x.set(4, 1, 3);
        x.set(4, 3, 99);
        x.set(4, 4, 98);
        for (int p = 0; p < 6; p++) {
            Bounds.person(x, p, 900 + p, 90 + p, 80 + p);
        }
        x.days(20);
        x.call(0);
        B.due("undone", x.undo(), 5);
        B.sameSeen("undo()", x, twin);
        x = new LeftTillCalled();
        B.due("an image of nothing", x.image(), 1);
        x.thing(PARCEL, 0);
        B.due("undone", x.undo(), 0);
        B.due("no THINGS", x.of(0, 0), BEYOND);
    }

    private static void imageKeepsNot() {
        B.sentence("35: (THE TAPE not); 3.: sheets stand in no section 1; 39: undo() takes none back");
        LeftTillCalled x = new LeftTillCalled();
        x.feed(0x77696665, 4);
        x.sheet(0, 8, 2);
        x.write(0, 0, 3);
        x.image();
        x.feed(';', 1);
        x.feed(0x6c616479, 4);
        x.write(0, 0, 4);
        x.sheet(1, 16, 1);
        x.now(9);
        B.due("undone", x.undo(), 0);
        B.due("bytes", x.count(1), 9);
        B.due("a number", x.write(0, 0, 5), 4);
        B.due("a sheet", x.write(1, 0, 5), 0);
        B.due("findings", x.status(0), 1);
        B.due("items", x.station(), 2);
        B.due("undone", x.undo(), 0);
        B.due("bytes", x.count(1), 0);
    }

    private static void undoStays() {
        B.sentence("36: It becomes what was kept latest (which stays): how many THINGS. NONE: nothing is kept.");
        LeftTillCalled x = new LeftTillCalled();
        B.due("nothing is kept", x.undo(), NONE);
        for (int t = 0; t < 8; t++) {
            x.thing(PARCEL, 0);
            x.image();
        }
        for (int i = 0; i < 3; i++) {
            x.days(100);
            B.due("the latest", x.undo(), 8);
            B.due("DAY", x.now(0), 0);
        }
        B.due("still FULL", x.thing(0, 0), Bounds.FULL);
    }

    private static void tears() {
        B.sentence("37: Nothing is kept: 1 if something was, else 0.");
        LeftTillCalled x = new LeftTillCalled();
        B.due("nothing was", x.tear(), 0);
        x.image();
        x.undo();
        B.due("something was", x.tear(), 1);
        B.due("nothing was", x.tear(), 0);
        B.due("nothing is kept", x.undo(), NONE);
        x.thing(PARCEL, 0);
        x.image();
        x.image();
        B.due("both are torn", x.tear(), 1);
        B.due("nothing is kept", x.undo(), NONE);
        B.due("THINGS", x.count(0), 1);
    }

    private static void counts() {
        B.sentence("38: 0 THINGS, 1 bytes of THE TAPE, 2 those that are there, 3 WORTH of all together.");
        LeftTillCalled x = new LeftTillCalled();
        for (int t = 0; t < 8; t++) {
            B.due("THINGS", x.count(0), t);
            B.due("there", x.count(2), t);
            B.due("WORTH", x.count(3), 9999 * t);
            x.thing(t % 6, 0);
            x.set(t, 4, 9999);
        }
        B.due("WORTH of eight", x.count(3), 79992);
        x.call(7);
        B.due("THINGS", x.count(0), 8);
        B.due("there", x.count(2), 7);
        B.due("WORTH of one that isn't there, too", x.count(3), 79992);
        for (int i = 0; i < 30; i++) {
            x.feed(0, 4);
        }
        B.due("bytes", x.count(1), 120);
        B.sentence("13: DUE of all that are there together, MEANS of all together");
        for (int t = 0; t < 8; t++) {
            x.set(t, 3, 999999);
        }
        for (int p = 0; p < 6; p++) {
            x.person(p, 0, 999999);
        }
        B.due("DUE of seven", x.now(3), 7 * 999999);
        B.due("MEANS", x.now(4), 6 * 999999);
        x.leave(7);
        x.set(7, 3, 999999);
        B.due("DUE of eight", x.now(3), 8 * 999999);
    }

    private static void statusOfEach() {
        B.sentence("39: How many acts answered a finding ever: which -1: all, 0 to 6: BEYOND to SIZE.");
        String[] calls = {"status", "thing", "as", "undo", "leave", "lays", "sheet"};
        long[][] args = {{7}, {0, 0}, {0, 5}, {}, {0}, {0}, {0, 0, -1}};
        LeftTillCalled x = new LeftTillCalled();
        for (int t = 0; t < 8; t++) {
            x.thing(PARCEL, 0);
        }
        int all = 0;
        for (int which = 0; which < 7; which++) {
            for (int i = 0; i <= which; i++) {
                B.due(calls[which], Bounds.ask(x, calls[which], args[which]), BEYOND - which);
                all++;
                B.due("so many of " + which, x.status(which), i + 1);
                B.due("so many of all", x.status(-1), all);
            }
        }
        for (int which = 0; which < 7; which++) {
            B.due("so many of " + which + " at last", x.status(which), which + 1);
        }
        x.image();
        x.undo();
        x.tear();
        B.due("all", x.status(-1), 28);
        B.sentence("39: BEYOND (counted from then on): another one.");
        B.due("another one", x.status(-2), BEYOND);
        B.due("counted", x.status(0), 2);
        B.due("another one", x.status(7), BEYOND);
        B.due("counted", x.status(-1), 30);
    }

    private static void findingsInLongs() {
        B.sentence("FINDINGS are answers below -1000000000 .. (in longs, too)");
        LeftTillCalled x = new LeftTillCalled();
        B.due("no such sheet", x.write(4, 0, 0), -1000000001L);
        B.due("MISSING", x.write(0, 0, 0), -1000000006L);
        x.sheet(0, 64, 1);
        B.due("no such number", x.write(0, 1, 0), -1000000001L);
        x.write(0, 0, -1000000001L);
        B.due("a number, no finding", x.write(0, 0, 0), -1000000001L);
        B.due("findings", x.status(-1), 3);
    }
}
