import java.util.function.Supplier;

/**
 * Each promise's findings: each argument at its ends and just beyond them, which finding comes
 * first, and that a refused call changes nothing but status().
 */
public final class FindingsTest {
    private static final int BEYOND = Bounds.BEYOND;
    private static final int FULL = Bounds.FULL;
    private static final int KIND = Bounds.KIND;
    private static final int NONE = Bounds.NONE;
    private static final int STATE = Bounds.STATE;
    private static final int MISSING = Bounds.MISSING;
    private static final int SIZE = Bounds.SIZE;
    private static final int LEAST = Bounds.LEAST;
    private static final int GREATEST = Bounds.GREATEST;

    private static final Bounds B = new Bounds();
    private static final Supplier<LeftTillCalled> FRESH = Bounds::fresh;
    private static final Supplier<LeftTillCalled> RICH = Bounds::rich;
    private static final Supplier<LeftTillCalled> FULL_ROOM = Bounds::full;

    public static void main(String[] args) {
        people();
        things();
        thingsFull();
        as();
        call();
        leave();
        days();
        now();
        ahead();
        aheadNone();
        label();
        best();
        bestNone();
        feed();
        sheet();
        write();
        copy();
        pages();
        images();
        noFindings();
        lookAheadChangesNothing();
        B.end();
    }

    private static void people() {
        B.sentence("2: MEANS (what 0), EARNS (1), SPENDS (2) of one becomes v. BEYOND.");
        B.argument(RICH, 0, 0, 5, "person", 2, 0, 5);
        B.argument(RICH, 1, 0, 2, "person", 2, 0, 5);
        B.argument(RICH, 2, 0, 999999, "person", 2, 0, 5);
        B.argument(RICH, 2, 0, 999, "person", 2, 1, 5);
        B.argument(RICH, 2, 0, 999, "person", 2, 2, 5);
        for (int what : new int[] {LEAST, -1, 3, 4, GREATEST}) {
            B.refused(RICH, BEYOND, "person", 2, what, 0);
        }
        B.refused(RICH, BEYOND, "person", -1, -1, -1);
        B.refused(RICH, BEYOND, "person", 6, 3, 1000000);
        B.sentence("3: Of one: what 0 to 4. BEYOND.");
        B.argument(RICH, 0, 0, 5, "personOf", 2, 0);
        B.argument(RICH, 1, 0, 4, "personOf", 2, 0);
        B.argument(FRESH, 0, 0, 5, "personOf", 2, 4);
        B.refused(RICH, BEYOND, "personOf", -1, 5);
    }

    private static void things() {
        B.sentence("4: A new THING. BEYOND: kind, person.");
        B.argument(RICH, 0, 0, 5, "thing", 2, 3);
        B.argument(RICH, 1, 0, 5, "thing", 2, 3);
        B.refused(FRESH, BEYOND, "thing", 6, 6);
        B.sentence("5: Of a THING: what 0 to 7. BEYOND.");
        B.argument(RICH, 0, 0, 4, "of", 2, 0);
        B.argument(FULL_ROOM, 0, 0, 7, "of", 2, 0);
        B.argument(RICH, 1, 0, 7, "of", 2, 0);
        B.refused(FRESH, BEYOND, "of", 0, 0);
        B.refused(RICH, BEYOND, "of", 5, 8);
        B.sentence("6: LABEL (what 1), DUE (3), WORTH (4) of a THING becomes v. BEYOND.");
        B.argument(RICH, 0, 0, 4, "set", 2, 1, 3);
        B.argument(FULL_ROOM, 0, 0, 7, "set", 2, 1, 3);
        B.argument(RICH, 2, 0, 5, "set", 2, 1, 3);
        B.argument(RICH, 2, 0, 999999, "set", 2, 3, 3);
        B.argument(RICH, 2, 0, 9999, "set", 2, 4, 3);
        for (int what : new int[] {LEAST, -1, 0, 2, 5, 6, 7, GREATEST}) {
            B.refused(RICH, BEYOND, "set", 2, what, 3);
            B.refused(RICH, BEYOND, "set", 2, what, 0);
        }
        B.refused(FRESH, BEYOND, "set", 0, 1, 0);
        B.refused(RICH, BEYOND, "set", 5, 0, -1);
        B.sentence("7: A THING becomes one of another KIND. BEYOND.");
        B.argument(RICH, 0, 0, 4, "turn", 2, 1);
        B.argument(FULL_ROOM, 0, 0, 7, "turn", 2, 1);
        B.argument(RICH, 1, 0, 5, "turn", 2, 1);
        B.refused(FRESH, BEYOND, "turn", 0, 0);
        B.refused(RICH, BEYOND, "turn", -1, 6);
        B.sentence("9: What one would BID for a THING. BEYOND.");
        B.argument(RICH, 0, 0, 4, "bid", 2, 1);
        B.argument(FULL_ROOM, 0, 0, 7, "bid", 2, 1);
        B.argument(RICH, 1, 0, 5, "bid", 2, 1);
        B.refused(FRESH, BEYOND, "bid", 0, 0);
        B.refused(RICH, BEYOND, "bid", 5, 6);
    }

    private static void thingsFull() {
        B.sentence("4: FULL (THINGS 0, 1, .. (at most 8))");
        B.refused(FULL_ROOM, FULL, "thing", 0, 0);
        B.refused(FULL_ROOM, FULL, "thing", 5, 5);
        LeftTillCalled x = new LeftTillCalled();
        for (int t = 0; t < 8; t++) {
            B.due("its number", x.thing(t % 6, 0), t);
            B.due("FULL before a 9th", x.status(1), 0);
        }
        B.due("a 9th", x.thing(0, 0), FULL);
        B.due("all of them as a set", x.now(2), 255);
        for (int t = 0; t < 8; t++) {
            x.call(t);
        }
        B.due("a 9th, while none is there", x.thing(0, 0), FULL);
        B.due("all of them WITH him", x.personOf(0, 4), 255);
        B.sentence("4: BEYOND: kind, person (asked ahead of FULL)");
        B.refused(FULL_ROOM, BEYOND, "thing", 6, 0);
        B.refused(FULL_ROOM, BEYOND, "thing", -1, 0);
        B.refused(FULL_ROOM, BEYOND, "thing", 0, 6);
        B.refused(FULL_ROOM, BEYOND, "thing", 0, -1);
    }

    private static void as() {
        B.sentence("8: A THING as one of a kind. BEYOND: no such one, kind.");
        B.argument(RICH, 0, 0, 4, "as", 2, 0);
        B.argument(FULL_ROOM, 0, 0, 7, "as", 2, 0);
        B.argument(RICH, 1, 0, 5, "as", 2, 0);
        B.refused(FRESH, BEYOND, "as", 0, 0);
        B.sentence("8: KIND: it isn't of that kind, nor of one under it.");
        int[][] isNot = {
            {0, 1}, {0, 2}, {0, 4}, {0, 5}, {1, 2}, {1, 3}, {1, 4}, {1, 5}, {2, 1}, {2, 3}, {2, 4}, {2, 5},
            {3, 2}, {3, 3}, {3, 5}, {4, 1}, {4, 3}, {4, 4}
        };
        for (int[] t : isNot) {
            B.refused(RICH, KIND, "as", t[0], t[1]);
        }
        for (int k = 1; k < 6; k++) {
            B.refused(FULL_ROOM, KIND, "as", 7, k);
        }
        int[][] is = {{0, 3}, {0, 0}, {1, 1}, {1, 0}, {2, 2}, {2, 0}, {3, 4}, {3, 1}, {3, 0}, {4, 5}, {4, 2}, {4, 0}};
        for (int[] t : is) {
            LeftTillCalled x = Bounds.rich();
            x.set(t[0], 3, 700 + t[0]);
            B.due("as(" + t[0] + ", " + t[1] + ")", x.as(t[0], t[1]), 700 + t[0]);
            B.due("KIND counted", x.status(2), 0);
        }
        B.sentence("8: BEYOND is asked ahead of KIND");
        B.refused(RICH, BEYOND, "as", 5, 1);
        B.refused(RICH, BEYOND, "as", 0, 6);
    }

    private static LeftTillCalled tooDear() {
        LeftTillCalled x = Bounds.rich();
        x.set(4, 3, 56);
        x.set(4, 1, 5);
        return x;
    }

    private static void call() {
        B.sentence("10: A THING is CALLED for. BEYOND.");
        B.argument(RICH, 0, 0, 4, "call", 2);
        B.argument(FULL_ROOM, 0, 0, 7, "call", 2);
        B.refused(FRESH, BEYOND, "call", 0);
        B.sentence("10: STATE: it isn't there");
        B.refused(RICH, STATE, "call", 1);
        B.refused(RICH, STATE, "call", 3);
        B.sentence("10: STATE: his MEANS are below DUE");
        B.refused(RICH, STATE, "call", 2);
        B.refused(FindingsTest::tooDear, STATE, "call", 4);
        for (int means = 54; means <= 58; means++) {
            LeftTillCalled x = tooDear();
            x.person(5, 0, means);
            B.due("call with " + means, x.call(4), means < 56 ? STATE : 56);
            B.due("MEANS behind it", x.personOf(5, 0), means < 56 ? means : means - 56);
            B.due("WITH behind it", x.of(4, 5), means < 56 ? -1 : 5);
        }
    }

    private static void leave() {
        B.sentence("11: A THING that is WITH somebody is LEFT again. BEYOND.");
        B.argument(RICH, 0, 0, 4, "leave", 2);
        B.argument(FULL_ROOM, 0, 0, 7, "leave", 2);
        B.refused(FRESH, BEYOND, "leave", 0);
        B.sentence("11: STATE: it is there.");
        B.refused(RICH, STATE, "leave", 0);
        B.refused(RICH, STATE, "leave", 2);
        B.refused(RICH, STATE, "leave", 4);
        LeftTillCalled x = Bounds.rich();
        B.due("who", x.leave(3), 4);
        B.due("again", x.leave(3), STATE);
    }

    /** With so few calls that all can be seen afterwards. */
    private static LeftTillCalled onDay(int day) {
        LeftTillCalled x = Bounds.poor();
        Bounds.left(x, Bounds.PARCEL, 2, 7, 9);
        Bounds.goTo(x, day);
        x.person(2, 1, 3);
        return x;
    }

    private static void days() {
        B.sentence("12: n DAYS go (1 to 100). BEYOND.");
        B.argument(RICH, 0, 1, 100, "days", 3);
        B.argument(FRESH, 0, 1, 100, "days", 3);
        B.sentence("12: STATE: DAY would be above 9999.");
        B.refused(() -> onDay(9999), STATE, "days", 1);
        B.refused(() -> onDay(9999), STATE, "days", 100);
        B.refused(() -> onDay(9998), STATE, "days", 2);
        B.refused(() -> onDay(9900), STATE, "days", 100);
        int[][] goes = {{9998, 1}, {9997, 2}, {9899, 100}, {9900, 99}};
        for (int[] g : goes) {
            LeftTillCalled x = onDay(g[0]);
            B.due("days(" + g[1] + ") on " + g[0], x.days(g[1]), 1);
            B.due("DAY", x.now(0), 9999);
            B.due("findings", x.status(-1), 0);
        }
        B.sentence("12: BEYOND is asked ahead of STATE");
        B.refused(() -> onDay(9999), BEYOND, "days", 0);
        B.refused(() -> onDay(9999), BEYOND, "days", 101);
        B.refused(() -> onDay(9999), BEYOND, "days", GREATEST);
    }

    private static void now() {
        B.sentence("13: What 0 to 5. BEYOND.");
        B.argument(RICH, 0, 0, 5, "now", 2);
        B.argument(FRESH, 0, 0, 5, "now", 2);
        B.sentence("38: BEYOND: another what.");
        B.argument(RICH, 0, 0, 3, "count", 2);
        B.argument(FRESH, 0, 0, 3, "count", 2);
    }

    private static void ahead() {
        B.sentence("14: DUE (what 0), WITH (1) of a THING ON n DAYS (0 to 100). BEYOND.");
        B.argument(RICH, 0, 0, 4, "on", 2, 5, 0);
        B.argument(FULL_ROOM, 0, 0, 7, "on", 2, 5, 0);
        B.argument(RICH, 1, 0, 100, "on", 2, 5, 0);
        B.argument(RICH, 2, 0, 1, "on", 2, 5, 0);
        B.refused(FRESH, BEYOND, "on", 0, 0, 0);
        B.refused(RICH, BEYOND, "on", 5, 101, 2);
        B.sentence("15: MEANS of one ON n DAYS (0 to 100). BEYOND.");
        B.argument(RICH, 0, 0, 5, "means", 2, 5);
        B.argument(RICH, 1, 0, 100, "means", 2, 5);
        B.refused(RICH, BEYOND, "means", -1, -1);
        B.sentence("16: In how many DAYS a THING isn't there first. BEYOND.");
        B.argument(RICH, 0, 0, 4, "gone", 2);
        B.argument(FULL_ROOM, 0, 0, 7, "gone", 2);
        B.refused(FRESH, BEYOND, "gone", 0);
        B.sentence("17: In how many DAYS a THING is WITH one first. BEYOND.");
        B.argument(RICH, 0, 0, 4, "comes", 2, 1);
        B.argument(FULL_ROOM, 0, 0, 7, "comes", 2, 1);
        B.argument(RICH, 1, 0, 5, "comes", 2, 1);
        B.refused(FRESH, BEYOND, "comes", 0, 0);
        B.refused(RICH, BEYOND, "comes", 0, 6);
    }

    private static void aheadNone() {
        B.sentence("16: NONE.");
        B.refused(RICH, NONE, "gone", 0);
        B.sentence("17: NONE.");
        B.refused(RICH, NONE, "comes", 0, 5);
        B.refused(RICH, NONE, "comes", 1, 0);
        B.refused(RICH, NONE, "comes", 3, 2);
        B.sentence("18: NONE.");
        B.refused(RICH, NONE, "empty");
        LeftTillCalled x = Bounds.rich();
        B.due("it is WITH another", x.gone(1), 0);
        B.due("it is WITH him", x.comes(3, 4), 0);
        B.due("nothing was LEFT", new LeftTillCalled().empty(), 0);
    }

    private static void label() {
        B.sentence("22: Whose LABEL a THING had best bear. BEYOND.");
        B.argument(RICH, 0, 0, 4, "label", 2);
        B.argument(FULL_ROOM, 0, 0, 7, "label", 2);
        B.refused(FRESH, BEYOND, "label", 0);
        B.sentence("22: STATE: it isn't there (asked ahead of NONE).");
        B.refused(RICH, STATE, "label", 1);
        B.refused(RICH, STATE, "label", 3);
        B.sentence("22: NONE.");
        B.refused(FindingsTest::nobodyCan, NONE, "label", 0);
    }

    private static LeftTillCalled nobodyCan() {
        LeftTillCalled x = Bounds.rich();
        for (int p = 0; p < 6; p++) {
            Bounds.person(x, p, 0, 0, 0);
        }
        return x;
    }

    private static void best() {
        B.sentence("19: The least MEANS .. ON n DAYS (1 to 60). BEYOND.");
        B.argument(RICH, 0, 0, 4, "enough", 2, 1, 5);
        B.argument(FULL_ROOM, 0, 0, 7, "enough", 2, 1, 5);
        B.argument(RICH, 1, 0, 5, "enough", 2, 1, 5);
        B.argument(RICH, 2, 1, 60, "enough", 2, 1, 5);
        B.refused(FRESH, BEYOND, "enough", 0, 0, 1);
        B.refused(RICH, BEYOND, "enough", 0, 5, 61);
        B.sentence("20: The greatest SPENDS .. ON n DAYS (1 to 60). BEYOND.");
        B.argument(RICH, 0, 0, 4, "spend", 2, 1, 5);
        B.argument(FULL_ROOM, 0, 0, 7, "spend", 2, 1, 5);
        B.argument(RICH, 1, 0, 5, "spend", 2, 1, 5);
        B.argument(RICH, 2, 1, 60, "spend", 2, 1, 5);
        B.refused(FRESH, BEYOND, "spend", 0, 0, 1);
        B.refused(RICH, BEYOND, "spend", 0, 5, 61);
        B.sentence("21: The KIND as one of which a THING is WITH one soonest. BEYOND.");
        B.argument(RICH, 0, 0, 4, "kind", 2, 1);
        B.argument(FULL_ROOM, 0, 0, 7, "kind", 2, 1);
        B.argument(RICH, 1, 0, 5, "kind", 2, 1);
        B.refused(FRESH, BEYOND, "kind", 0, 0);
        B.sentence("23: The THING that one had best CALL for now .. ON n DAYS (1 to 60). BEYOND.");
        B.argument(RICH, 0, 0, 5, "first", 2, 5);
        B.argument(RICH, 1, 1, 60, "first", 2, 5);
        B.argument(FRESH, 1, 1, 60, "first", 2, 5);
        B.sentence("24: The least WORTH .. ON n DAYS (1 to 60). BEYOND.");
        B.argument(RICH, 0, 0, 4, "worth", 2, 5);
        B.argument(FULL_ROOM, 0, 0, 7, "worth", 2, 5);
        B.argument(RICH, 1, 1, 60, "worth", 2, 5);
        B.refused(FRESH, BEYOND, "worth", 0, 1);
        B.refused(RICH, BEYOND, "worth", 1, 61);
        B.sentence("25: With whom most things are ON n DAYS (0 to 100). BEYOND.");
        B.argument(RICH, 0, 0, 100, "most", 5);
        B.argument(FRESH, 0, 0, 100, "most", 5);
    }

    private static void bestNone() {
        B.sentence("19: NONE.");
        B.refused(RICH, NONE, "enough", 0, 1, 60);
        B.refused(RICH, NONE, "enough", 1, 0, 60);
        B.sentence("20: NONE.");
        B.refused(RICH, NONE, "spend", 0, 1, 60);
        B.refused(RICH, NONE, "spend", 1, 0, 60);
        B.sentence("21: NONE.");
        B.refused(FindingsTest::nobodyCan, NONE, "kind", 0, 5);
        B.refused(RICH, NONE, "kind", 1, 0);
        B.sentence("24: NONE.");
        B.refused(RICH, NONE, "worth", 1, 1);
        B.refused(RICH, NONE, "worth", 3, 60);
    }

    private static LeftTillCalled taped(int bytes) {
        LeftTillCalled x = Bounds.poor();
        Bounds.feedText(x, "means 4 7");
        for (int i = x.count(1); i < bytes; i++) {
            x.feed(' ', 1);
        }
        return x;
    }

    private static void feed() {
        B.sentence("26: the n lowest bytes (n 1 to 4). BEYOND: n.");
        B.argument(RICH, 1, 1, 4, "feed", 0x6c616479, 3);
        B.argument(FRESH, 1, 1, 4, "feed", 0x6c616479, 3);
        B.sentence("26: FULL. (THE TAPE: bytes, at most 120)");
        for (int n = 1; n <= 4; n++) {
            int bytes = 120 - n;
            LeftTillCalled x = taped(bytes);
            B.due("to the end", x.feed(0x20202020, n), 120);
            B.due("findings", x.status(-1), 0);
            B.due("told to the end", x.station(), 1);
            B.due("MEANS", x.personOf(4, 0), 7);
            B.refused(() -> taped(bytes + 1), FULL, "feed", 0x6c616479, n);
            B.refused(() -> taped(120), FULL, "feed", 0x6c616479, n);
        }
        B.sentence("26: BEYOND is asked ahead of FULL");
        B.refused(() -> taped(120), BEYOND, "feed", 0, 0);
        B.refused(() -> taped(120), BEYOND, "feed", 0, 5);
        B.refused(() -> taped(118), BEYOND, "feed", 0, GREATEST);
    }

    private static void sheet() {
        B.sentence("29: BEYOND: no such sheet, other bits.");
        B.argument(RICH, 0, 0, 3, "sheet", 2, 8, 5);
        for (int bits : new int[] {LEAST, -64, -8, -1, 1, 7, 9, 15, 17, 24, 32, 63, 65, 128, GREATEST}) {
            B.refused(RICH, BEYOND, "sheet", 2, bits, 5);
            B.refused(RICH, BEYOND, "sheet", 2, bits, -1);
        }
        B.refused(RICH, BEYOND, "sheet", 4, 8, -1);
        B.refused(RICH, BEYOND, "sheet", -1, 0, -1);
        B.sentence("29: SIZE: n is below 0 (also with bits 0). BEYOND: n is above 40 (also with bits 0).");
        for (int bits : new int[] {0, 8, 16, 64}) {
            B.refused(RICH, SIZE, "sheet", 2, bits, -1);
            B.refused(RICH, SIZE, "sheet", 2, bits, LEAST);
            B.refused(RICH, BEYOND, "sheet", 2, bits, 41);
            B.refused(RICH, BEYOND, "sheet", 2, bits, GREATEST);
            B.notBeyond(RICH, "sheet", 2, bits, 0);
            B.notBeyond(RICH, "sheet", 2, bits, 40);
        }
    }

    private static void write() {
        B.sentence("30: BEYOND: no such sheet. MISSING. BEYOND: no such number.");
        B.argument(RICH, 0, 0, 3, "write", 2, 0, 5);
        B.argument(RICH, 1, 0, 3, "write", 0, 0, 5);
        B.argument(RICH, 1, 0, 2, "write", 1, 0, 5);
        B.argument(RICH, 1, 0, 39, "write", 2, 0, 5);
        B.refused(RICH, MISSING, "write", 3, 0, 5);
        B.refused(RICH, MISSING, "write", 3, -1, 5);
        B.refused(RICH, MISSING, "write", 3, 40, 5);
        B.refused(RICH, BEYOND, "write", 4, -1, 5);
        B.refused(FindingsTest::noNumbers, BEYOND, "write", 0, 0, 5);
        B.refused(FRESH, MISSING, "write", 0, 0, 5);
    }

    /** Sheets that have no numbers are not MISSING. */
    private static LeftTillCalled noNumbers() {
        LeftTillCalled x = Bounds.rich();
        x.sheet(0, 8, 0);
        x.sheet(1, 16, 0);
        x.sheet(2, 64, 0);
        return x;
    }

    private static LeftTillCalled likeSheets() {
        LeftTillCalled x = Bounds.rich();
        x.sheet(1, 8, 3);
        x.write(1, 0, 77);
        return x;
    }

    private static void copy() {
        B.sentence("31: BEYOND: no such sheet (either).");
        B.argument(RICH, 0, 0, 3, "copy", 0, 0, 0, 0, 1);
        B.argument(RICH, 2, 0, 3, "copy", 0, 0, 0, 0, 1);
        B.refused(RICH, BEYOND, "copy", 3, 0, 4, 0, 1);
        B.refused(RICH, BEYOND, "copy", 4, 0, 3, 0, 1);
        B.refused(RICH, BEYOND, "copy", -1, -1, 3, -1, -1);
        B.sentence("31: MISSING: one is.");
        B.refused(RICH, MISSING, "copy", 3, 0, 0, 0, 1);
        B.refused(RICH, MISSING, "copy", 0, 0, 3, 0, 1);
        B.refused(RICH, MISSING, "copy", 3, 0, 3, 0, 0);
        B.refused(RICH, MISSING, "copy", 3, -1, 1, 0, 1);
        B.refused(RICH, MISSING, "copy", 1, 0, 3, 0, -1);
        B.sentence("31: KIND: they are not of as many bits.");
        B.refused(RICH, KIND, "copy", 0, 0, 1, 0, 1);
        B.refused(RICH, KIND, "copy", 1, 0, 2, 0, 1);
        B.refused(RICH, KIND, "copy", 2, 0, 0, 0, 0);
        B.refused(RICH, KIND, "copy", 0, -1, 1, 0, 1);
        B.refused(RICH, KIND, "copy", 0, 0, 1, 0, 41);
        B.refused(FindingsTest::noNumbers, KIND, "copy", 0, 0, 1, 0, 0);
        B.sentence("31: BEYOND: one has not so many, or from, to or n is below 0.");
        Supplier<LeftTillCalled> two = FindingsTest::likeSheets;
        B.argument(two, 1, 0, 2, "copy", 0, 0, 1, 0, 2);
        B.argument(two, 3, 0, 1, "copy", 0, 0, 1, 0, 2);
        B.argument(two, 4, 0, 3, "copy", 0, 0, 1, 0, 2);
        B.argument(two, 4, 0, 3, "copy", 1, 0, 0, 0, 2);
        B.argument(two, 4, 0, 1, "copy", 0, 3, 1, 0, 1);
        B.argument(two, 4, 0, 1, "copy", 0, 0, 1, 2, 1);
        B.argument(RICH, 4, 0, 40, "copy", 2, 0, 2, 0, 1);
        B.refused(two, BEYOND, "copy", 0, GREATEST, 1, 0, GREATEST);
        B.refused(two, BEYOND, "copy", 0, 1, 1, GREATEST, GREATEST);
        B.refused(two, BEYOND, "copy", 0, LEAST, 1, 0, LEAST);
        B.refused(FindingsTest::noNumbers, BEYOND, "copy", 0, 0, 0, 0, 1);
        B.notBeyond(FindingsTest::noNumbers, "copy", 0, 0, 0, 0, 0);
    }

    private static void pages() {
        B.sentence("32: BEYOND: no such sheet. MISSING.");
        B.argument(RICH, 0, 0, 3, "lays", 2);
        B.refused(RICH, MISSING, "lays", 3);
        B.refused(FRESH, MISSING, "lays", 0);
        for (String call : new String[] {"book", "read"}) {
            B.sentence("33, 34: BEYOND: no such sheet. MISSING. BEYOND: thing. " + call);
            B.argument(RICH, 0, 0, 3, call, 2, 0);
            B.argument(RICH, 1, 0, 4, call, 2, 0);
            B.argument(FULL_ROOM, 1, 0, 7, call, 2, 0);
            B.refused(RICH, MISSING, call, 3, 0);
            B.refused(RICH, MISSING, call, 3, 5);
            B.refused(RICH, MISSING, call, 3, -1);
            B.refused(RICH, BEYOND, call, 4, 5);
            B.refused(FindingsTest::noNumbers, BEYOND, call, 0, 5);
            B.refused(FRESH, MISSING, call, 0, 0);
        }
    }

    private static LeftTillCalled torn() {
        LeftTillCalled x = Bounds.rich();
        x.tear();
        return x;
    }

    private static void images() {
        B.sentence("36: NONE: nothing is kept.");
        B.refused(FRESH, NONE, "undo");
        B.refused(FindingsTest::torn, NONE, "undo");
        B.sentence("39: which -1: all, 0 to 6: BEYOND to SIZE. BEYOND (counted from then on): another one.");
        B.argument(RICH, 0, -1, 6, "status", 0);
        B.argument(FRESH, 0, -1, 6, "status", 0);
    }

    private static void noFindings() {
        B.sentence("27, 28, 35, 37: wipe, station, image, tear tell no finding");
        for (String call : new String[] {"wipe", "station", "image", "tear"}) {
            LeftTillCalled x = new LeftTillCalled();
            for (int i = 0; i < 3; i++) {
                Bounds.ask(x, call);
                B.due("findings behind " + call, x.status(-1), 0);
            }
        }
    }

    private static void lookAheadChangesNothing() {
        B.sentence("2.: ON: n DAYS go on with all as it is; nothing changes.");
        for (int t = 0; t < 5; t++) {
            B.looksOnly(RICH, "on", t, 100, 0);
            B.looksOnly(RICH, "on", t, 100, 1);
            B.looksOnly(RICH, "gone", t);
            B.looksOnly(RICH, "comes", t, 1);
            B.looksOnly(RICH, "enough", t, 1, 60);
            B.looksOnly(RICH, "spend", t, 1, 60);
            B.looksOnly(RICH, "kind", t, 2);
            B.looksOnly(RICH, "label", t);
            B.looksOnly(RICH, "worth", t, 60);
            B.looksOnly(RICH, "read", 2, t);
            B.looksOnly(RICH, "of", t, 7);
            B.looksOnly(RICH, "bid", t, 5);
            B.looksOnly(RICH, "as", t, 0);
        }
        for (int p = 0; p < 6; p++) {
            B.looksOnly(RICH, "means", p, 100);
            B.looksOnly(RICH, "first", p, 60);
        }
        B.looksOnly(RICH, "empty");
        B.looksOnly(RICH, "most", 100);
        LeftTillCalled x = new LeftTillCalled();
        B.due("ON 0 DAYS", x.means(0, 0), 100);
    }
}
