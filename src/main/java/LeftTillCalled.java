/** A station's cloakroom: things with labels and dues, people with means, days and sales. */
public final class LeftTillCalled {
    private static final int BEYOND = -1000000001;
    private static final int FULL = -1000000002;
    private static final int KIND = -1000000003;
    private static final int NONE = -1000000004;
    private static final int STATE = -1000000005;
    private static final int MISSING = -1000000006;
    private static final int SIZE = -1000000007;
    private static final int FINDINGS = 7;

    private static final int PEOPLE = 6;
    private static final int MOST_THINGS = 8;
    private static final int THERE = -1;
    private static final int LAST_DAY = 9999;
    private static final int MOST_PENCE = 999999;
    private static final int MOST_TAKEN = 99999999;
    private static final int MOST_WORTH = 9999;
    private static final int MOST_RATE = 999;
    private static final int FIRST_WORTH = 100;

    private static final int FAR = 100;
    private static final int FARTHEST = 200;
    private static final int NEAR = 60;
    private static final int MOST_TRIED = 999;
    private static final int MOST_SPENDS_TRIED = 99;

    private static final int SHEETS = 4;
    private static final int SHEET_LENGTH = 40;
    private static final int TAPE_LENGTH = 120;

    private static final int PARCEL = 0;
    private static final int LADY = 1;
    private static final int GLOVE = 2;
    private static final int REGIMENT = 3;
    private static final int WIFE = 4;
    private static final int HATBOX = 5;
    private static final int KINDS = 6;
    private static final int PARCEL_MOUNTS = 2;
    private static final int LADY_MOUNTS = 3 * PARCEL_MOUNTS;
    private static final int WIFE_STAYS = 30;

    /** Of each KIND the one that it is under; none is above PARCEL. */
    private static final int[] KIND_ABOVE = {-1, PARCEL, PARCEL, PARCEL, LADY, GLOVE};

    private final Station room;
    private final Station ahead;
    private final Station kept;
    private boolean isKept;
    private final Tape tape;
    private final Text text;
    private final Sheet[] sheets;
    private final int[] findings;

    public LeftTillCalled() {
        room = new Station();
        ahead = new Station();
        kept = new Station();
        isKept = false;
        text = new Text();
        tape = text.tape;
        sheets = new Sheet[SHEETS];
        for (int s = 0; s < SHEETS; s++) {
            sheets[s] = new Sheet();
        }
        findings = new int[FINDINGS];
    }

    // ---- people

    public int person(int person, int what, int v) {
        if (!isPerson(person) || !isWithin(v, 0, mostOfPerson(what))) {
            return found(BEYOND);
        }
        int[] row = what == 0 ? room.means : what == 1 ? room.earns : room.spends;
        int was = row[person];
        row[person] = v;
        return was;
    }

    public int personOf(int person, int what) {
        if (!isPerson(person)) {
            return found(BEYOND);
        }
        switch (what) {
            case 0: return room.means[person];
            case 1: return room.earns[person];
            case 2: return room.spends[person];
            case 3: return room.setOf(room.labels, person);
            case 4: return room.setOf(room.withs, person);
            default: return found(BEYOND);
        }
    }

    // ---- things

    public int thing(int kind, int person) {
        if (!isKind(kind) || !isPerson(person)) {
            return found(BEYOND);
        }
        if (room.isFull()) {
            return found(FULL);
        }
        return room.take(kind, person, 0, FIRST_WORTH);
    }

    public int of(int thing, int what) {
        if (!room.hasThing(thing)) {
            return found(BEYOND);
        }
        switch (what) {
            case 0: return room.kinds[thing];
            case 1: return room.labels[thing];
            case 2: return room.lefts[thing];
            case 3: return room.dues[thing];
            case 4: return room.worths[thing];
            case 5: return room.withs[thing];
            case 6: return room.mountOf(thing);
            case 7: return room.maySell(thing) ? 1 : 0;
            default: return found(BEYOND);
        }
    }

    public int set(int thing, int what, int v) {
        if (!room.hasThing(thing) || !isWithin(v, 0, mostOfThing(what))) {
            return found(BEYOND);
        }
        int[] row = what == 1 ? room.labels : what == 3 ? room.dues : room.worths;
        int was = row[thing];
        row[thing] = v;
        return was;
    }

    public int turn(int thing, int kind) {
        if (!room.hasThing(thing) || !isKind(kind)) {
            return found(BEYOND);
        }
        int was = room.kinds[thing];
        room.kinds[thing] = kind;
        return was;
    }

    public int as(int thing, int kind) {
        if (!room.hasThing(thing) || !isKind(kind)) {
            return found(BEYOND);
        }
        if (!isUnder(room.kinds[thing], kind)) {
            return found(KIND);
        }
        return room.dues[thing];
    }

    public int bid(int thing, int person) {
        if (!room.hasThing(thing) || !isPerson(person)) {
            return found(BEYOND);
        }
        return room.offerOf(thing, person);
    }

    public int call(int thing) {
        if (!room.hasThing(thing)) {
            return found(BEYOND);
        }
        if (!room.canBeCalled(thing)) {
            return found(STATE);
        }
        int paid = room.dues[thing];
        room.handOver(thing, room.labels[thing], paid);
        return paid;
    }

    public int leave(int thing) {
        if (!room.hasThing(thing)) {
            return found(BEYOND);
        }
        if (room.isThere(thing)) {
            return found(STATE);
        }
        return room.takeBack(thing);
    }

    // ---- days

    public int days(int n) {
        if (!isWithin(n, 1, FAR)) {
            return found(BEYOND);
        }
        if (room.day + n > LAST_DAY) {
            return found(STATE);
        }
        room.goDays(n);
        return room.setOf(room.withs, THERE);
    }

    public int now(int what) {
        switch (what) {
            case 0: return room.day;
            case 1: return room.taken;
            case 2: return room.setOf(room.withs, THERE);
            case 3: return room.dueOfAllThere();
            case 4: return room.meansOfAll();
            case 5: return room.setForSale();
            default: return found(BEYOND);
        }
    }

    public int on(int thing, int n, int what) {
        if (!room.hasThing(thing) || !isWithin(n, 0, FAR) || !isWithin(what, 0, 1)) {
            return found(BEYOND);
        }
        startAhead();
        ahead.goDays(n);
        return what == 0 ? ahead.dues[thing] : ahead.withs[thing];
    }

    public int means(int person, int n) {
        if (!isPerson(person) || !isWithin(n, 0, FAR)) {
            return found(BEYOND);
        }
        startAhead();
        ahead.goDays(n);
        return ahead.means[person];
    }

    public int gone(int thing) {
        if (!room.hasThing(thing)) {
            return found(BEYOND);
        }
        startAhead();
        return orNone(ahead.daysTillGone(thing, FARTHEST));
    }

    public int comes(int thing, int person) {
        if (!room.hasThing(thing) || !isPerson(person)) {
            return found(BEYOND);
        }
        startAhead();
        return orNone(ahead.daysTillWith(thing, person, FARTHEST));
    }

    public int empty() {
        startAhead();
        return orNone(ahead.daysTillEmpty(FARTHEST));
    }

    // ---- what is best

    public int enough(int thing, int person, int n) {
        if (!room.hasThing(thing) || !isPerson(person) || !isWithin(n, 1, NEAR)) {
            return found(BEYOND);
        }
        for (int m = 0; m <= MOST_TRIED; m++) {
            startAhead();
            ahead.means[person] = m;
            if (ahead.daysTillWith(thing, person, n) >= 0) {
                return m;
            }
        }
        return found(NONE);
    }

    public int spend(int thing, int person, int n) {
        if (!room.hasThing(thing) || !isPerson(person) || !isWithin(n, 1, NEAR)) {
            return found(BEYOND);
        }
        for (int v = MOST_SPENDS_TRIED; v >= 0; v--) {
            startAhead();
            ahead.spends[person] = v;
            if (ahead.daysTillWith(thing, person, n) >= 0) {
                return v;
            }
        }
        return found(NONE);
    }

    public int kind(int thing, int person) {
        if (!room.hasThing(thing) || !isPerson(person)) {
            return found(BEYOND);
        }
        int best = -1;
        int soonest = FAR + 1;
        for (int k = 0; k < KINDS; k++) {
            startAhead();
            ahead.kinds[thing] = k;
            int n = ahead.daysTillWith(thing, person, soonest - 1);
            if (n >= 0) {
                soonest = n;
                best = k;
            }
        }
        return orNone(best);
    }

    public int label(int thing) {
        if (!room.hasThing(thing)) {
            return found(BEYOND);
        }
        if (!room.isThere(thing)) {
            return found(STATE);
        }
        int best = -1;
        int soonest = FAR + 1;
        for (int p = 0; p < PEOPLE; p++) {
            startAhead();
            ahead.labels[thing] = p;
            int n = ahead.daysTillGone(thing, soonest - 1);
            if (n >= 0) {
                soonest = n;
                best = p;
            }
        }
        return orNone(best);
    }

    public int first(int person, int n) {
        if (!isPerson(person) || !isWithin(n, 1, NEAR)) {
            return found(BEYOND);
        }
        startAhead();
        ahead.goDays(n);
        int most = ahead.countWith(person);
        int best = 0;
        for (int t = 0; t < room.things; t++) {
            if (room.labels[t] == person && room.canBeCalled(t)) {
                startAhead();
                ahead.handOver(t, person, ahead.dues[t]);
                ahead.goDays(n);
                int many = ahead.countWith(person);
                if (many > most) {
                    most = many;
                    best = 1 + t;
                }
            }
        }
        return best;
    }

    public int worth(int thing, int n) {
        if (!room.hasThing(thing) || !isWithin(n, 1, NEAR)) {
            return found(BEYOND);
        }
        for (int w = 0; w <= MOST_TRIED; w++) {
            startAhead();
            ahead.worths[thing] = w;
            if (ahead.daysTillGone(thing, n) < 0) {
                return w;
            }
        }
        return found(NONE);
    }

    public int most(int n) {
        if (!isWithin(n, 0, FAR)) {
            return found(BEYOND);
        }
        startAhead();
        ahead.goDays(n);
        int best = 0;
        for (int p = 1; p < PEOPLE; p++) {
            if (ahead.countWith(p) > ahead.countWith(best)) {
                best = p;
            }
        }
        return best;
    }

    // ---- the text

    public int feed(int bytes, int n) {
        if (!isWithin(n, 1, 4)) {
            return found(BEYOND);
        }
        if (tape.length + n > TAPE_LENGTH) {
            return found(FULL);
        }
        for (int i = n - 1; i >= 0; i--) {
            tape.add((byte) (bytes >> (8 * i)));
        }
        return tape.length;
    }

    public int wipe() {
        int had = tape.length;
        tape.length = 0;
        return had;
    }

    public int station() {
        startAhead();
        int items = text.tellTo(ahead);
        tape.length = 0;
        if (items >= 0) {
            room.become(ahead);
        }
        return items;
    }

    // ---- sheets

    public int sheet(int s, int bits, int n) {
        if (!isSheet(s) || bits != 0 && bits != 8 && bits != 16 && bits != 64) {
            return found(BEYOND);
        }
        if (n < 0) {
            return found(SIZE);
        }
        if (n > SHEET_LENGTH) {
            return found(BEYOND);
        }
        sheets[s].begin(bits, bits == 0 ? 0 : n);
        return sheets[s].length;
    }

    public long write(int s, int i, long v) {
        if (!isSheet(s)) {
            return found(BEYOND);
        }
        Sheet sheet = sheets[s];
        if (sheet.isMissing()) {
            return found(MISSING);
        }
        if (!isWithin(i, 0, sheet.length - 1)) {
            return found(BEYOND);
        }
        long was = sheet.numbers[i];
        sheet.put(i, v);
        return was;
    }

    public int copy(int s, int from, int t, int to, int n) {
        if (!isSheet(s) || !isSheet(t)) {
            return found(BEYOND);
        }
        Sheet source = sheets[s];
        Sheet target = sheets[t];
        if (source.isMissing() || target.isMissing()) {
            return found(MISSING);
        }
        if (source.bits != target.bits) {
            return found(KIND);
        }
        if (!source.hasRun(from, n) || !target.hasRun(to, n)) {
            return found(BEYOND);
        }
        System.arraycopy(source.numbers, from, target.numbers, to, n);
        return n;
    }

    public int lays(int s) {
        if (!isSheet(s)) {
            return found(BEYOND);
        }
        Sheet sheet = sheets[s];
        if (sheet.isMissing()) {
            return found(MISSING);
        }
        int came = 0;
        for (int p = 0; p < PEOPLE && p < sheet.length; p++) {
            long v = sheet.numbers[p];
            if (v >= 0 && v <= MOST_PENCE) {
                room.means[p] = (int) v;
                came++;
            }
        }
        return came;
    }

    public int book(int s, int thing) {
        int finding = findingOfPage(s, thing);
        if (finding != 0) {
            return found(finding);
        }
        Sheet sheet = sheets[s];
        startAhead();
        for (int i = 0; i < sheet.length; i++) {
            sheet.put(i, ahead.dues[thing]);
            ahead.goDay();
        }
        return sheet.length;
    }

    public int read(int s, int thing) {
        int finding = findingOfPage(s, thing);
        if (finding != 0) {
            return found(finding);
        }
        int pairs = 0;
        for (int k = 0; k < KINDS; k++) {
            for (int p = 0; p < PEOPLE; p++) {
                startAhead();
                ahead.kinds[thing] = k;
                ahead.labels[thing] = p;
                if (isBookedAhead(sheets[s], thing)) {
                    pairs++;
                }
            }
        }
        return pairs;
    }

    // ---- images

    public int image() {
        kept.become(room);
        isKept = true;
        return 1;
    }

    public int undo() {
        if (!isKept) {
            return found(NONE);
        }
        room.become(kept);
        return room.things;
    }

    public int tear() {
        int was = isKept ? 1 : 0;
        isKept = false;
        return was;
    }

    public int count(int what) {
        switch (what) {
            case 0: return room.things;
            case 1: return tape.length;
            case 2: return room.countWith(THERE);
            case 3: return room.worthOfAll();
            default: return found(BEYOND);
        }
    }

    public int status(int which) {
        if (!isWithin(which, -1, FINDINGS - 1)) {
            return found(BEYOND);
        }
        if (which >= 0) {
            return findings[which];
        }
        int all = 0;
        for (int i = 0; i < FINDINGS; i++) {
            all += findings[i];
        }
        return all;
    }

    // ---- what the calls share

    private int found(int finding) {
        int which = BEYOND - finding;
        if (which >= 0 && which < FINDINGS) {
            findings[which]++;
        }
        return finding;
    }

    private int orNone(int answer) {
        return answer < 0 ? found(NONE) : answer;
    }

    private void startAhead() {
        ahead.become(room);
    }

    private int findingOfPage(int s, int thing) {
        if (!isSheet(s)) {
            return BEYOND;
        }
        if (sheets[s].isMissing()) {
            return MISSING;
        }
        return room.hasThing(thing) ? 0 : BEYOND;
    }

    private boolean isBookedAhead(Sheet sheet, int thing) {
        for (int i = 0; i < sheet.length; i++) {
            if (sheet.numbers[i] != ahead.dues[thing]) {
                return false;
            }
            ahead.goDay();
        }
        return true;
    }

    private static boolean isWithin(int v, int least, int most) {
        return v >= least && v <= most;
    }

    private static boolean isPerson(int person) {
        return person >= 0 && person < PEOPLE;
    }

    private static boolean isKind(int kind) {
        return kind >= 0 && kind < KINDS;
    }

    private static boolean isSheet(int s) {
        return s >= 0 && s < SHEETS;
    }

    /** Below 0 where there is no such fact, so that no value fits it. */
    private static int mostOfPerson(int what) {
        switch (what) {
            case 0: return MOST_PENCE;
            case 1: return MOST_RATE;
            case 2: return MOST_RATE;
            default: return -1;
        }
    }

    /** Below 0 where there is no such fact, or it is none to be set. */
    private static int mostOfThing(int what) {
        switch (what) {
            case 1: return PEOPLE - 1;
            case 3: return MOST_PENCE;
            case 4: return MOST_WORTH;
            default: return -1;
        }
    }

    private static boolean isUnder(int kind, int above) {
        int k = kind;
        for (int step = 0; step < KINDS && k >= 0 && k < KINDS; step++) {
            if (k == above) {
                return true;
            }
            k = KIND_ABOVE[k];
        }
        return false;
    }

    /** All that section 1 tells but THE TAPE: one is there, one looks ahead, one is the image. */
    private static final class Station {
        private int day;
        private int taken;
        private final int[] means;
        private final int[] earns;
        private final int[] spends;
        private int things;
        private final int[] kinds;
        private final int[] labels;
        private final int[] lefts;
        private final int[] dues;
        private final int[] worths;
        private final int[] withs;

        Station() {
            day = 0;
            taken = 0;
            means = new int[PEOPLE];
            earns = new int[PEOPLE];
            spends = new int[PEOPLE];
            for (int p = 0; p < PEOPLE; p++) {
                means[p] = 100;
                earns[p] = 10;
                spends[p] = 5;
            }
            things = 0;
            kinds = new int[MOST_THINGS];
            labels = new int[MOST_THINGS];
            lefts = new int[MOST_THINGS];
            dues = new int[MOST_THINGS];
            worths = new int[MOST_THINGS];
            withs = new int[MOST_THINGS];
        }

        void become(Station other) {
            day = other.day;
            taken = other.taken;
            System.arraycopy(other.means, 0, means, 0, PEOPLE);
            System.arraycopy(other.earns, 0, earns, 0, PEOPLE);
            System.arraycopy(other.spends, 0, spends, 0, PEOPLE);
            things = other.things;
            System.arraycopy(other.kinds, 0, kinds, 0, MOST_THINGS);
            System.arraycopy(other.labels, 0, labels, 0, MOST_THINGS);
            System.arraycopy(other.lefts, 0, lefts, 0, MOST_THINGS);
            System.arraycopy(other.dues, 0, dues, 0, MOST_THINGS);
            System.arraycopy(other.worths, 0, worths, 0, MOST_THINGS);
            System.arraycopy(other.withs, 0, withs, 0, MOST_THINGS);
        }

        boolean hasThing(int thing) {
            return thing >= 0 && thing < things;
        }

        boolean isFull() {
            return things >= MOST_THINGS;
        }

        boolean isThere(int thing) {
            return withs[thing] == THERE;
        }

        /** A new one comes; the caller has seen that there is room. */
        int take(int kind, int person, int due, int worth) {
            int thing = things;
            kinds[thing] = kind;
            labels[thing] = person;
            lefts[thing] = day;
            dues[thing] = due;
            worths[thing] = worth;
            withs[thing] = THERE;
            things++;
            return thing;
        }

        int takeBack(int thing) {
            int who = withs[thing];
            labels[thing] = who;
            lefts[thing] = day;
            dues[thing] = 0;
            withs[thing] = THERE;
            return who;
        }

        /** Calls and sales end alike: who calls bears the LABEL already. */
        void handOver(int thing, int person, int price) {
            means[person] -= price;
            taken = Math.min(MOST_TAKEN, taken + price);
            dues[thing] = 0;
            withs[thing] = person;
            labels[thing] = person;
        }

        int mountOf(int thing) {
            int d = day - lefts[thing];
            int even = d % 2 == 0 ? 1 : 0;
            switch (kinds[thing]) {
                case LADY: return LADY_MOUNTS;
                case GLOVE: return even;
                case REGIMENT: return PARCEL_MOUNTS + worths[thing] / 100;
                case WIFE: return LADY_MOUNTS + d / 10;
                case HATBOX: return even + 1;
                default: return PARCEL_MOUNTS;
            }
        }

        boolean maySell(int thing) {
            switch (kinds[thing]) {
                case GLOVE:
                case HATBOX: return dues[thing] > worths[thing] / 2;
                case REGIMENT: return false;
                case WIFE: return day - lefts[thing] >= WIFE_STAYS && dues[thing] > worths[thing];
                default: return dues[thing] > worths[thing];
            }
        }

        int offerOf(int thing, int person) {
            int m = means[person];
            int half = worths[thing] / 2;
            switch (kinds[thing]) {
                case LADY: return Math.min(m, half + m / 100);
                case REGIMENT: return 0;
                case WIFE: return Math.min(m, 2 * (half + m / 100));
                case HATBOX: return Math.min(m, half + 5);
                default: return Math.min(m, half);
            }
        }

        boolean canBeCalled(int thing) {
            return isThere(thing) && dues[thing] <= means[labels[thing]];
        }

        void goDays(int n) {
            for (int i = 0; i < n; i++) {
                goDay();
            }
        }

        void goDay() {
            mountAll();
            earnAndSpend();
            callForOneEach();
            day++;
            if (day % 7 == 0) {
                holdSale();
            }
        }

        private void mountAll() {
            for (int t = 0; t < things; t++) {
                if (isThere(t)) {
                    dues[t] = Math.min(MOST_PENCE, dues[t] + mountOf(t));
                }
            }
        }

        private void earnAndSpend() {
            for (int p = 0; p < PEOPLE; p++) {
                int earned = Math.min(MOST_PENCE, means[p] + earns[p]);
                means[p] = Math.max(0, earned - spends[p]);
            }
        }

        /** One's call touches no other's means or things, so going by things does as by people. */
        private void callForOneEach() {
            int called = 0;
            for (int t = 0; t < things; t++) {
                int bit = 1 << labels[t];
                if ((called & bit) == 0 && canBeCalled(t)) {
                    handOver(t, labels[t], dues[t]);
                    called |= bit;
                }
            }
        }

        private void holdSale() {
            for (int t = 0; t < things; t++) {
                if (isThere(t) && maySell(t)) {
                    int who = highestBidder(t);
                    if (who >= 0) {
                        handOver(t, who, offerOf(t, who));
                    }
                }
            }
        }

        private int highestBidder(int thing) {
            int who = -1;
            int highest = 0;
            for (int p = 0; p < PEOPLE; p++) {
                int offer = p == labels[thing] ? 0 : offerOf(thing, p);
                if (offer > highest) {
                    highest = offer;
                    who = p;
                }
            }
            return who;
        }

        /** -1: not within so many days. */
        int daysTillGone(int thing, int most) {
            int n = 0;
            while (n < most && isThere(thing)) {
                goDay();
                n++;
            }
            return n > most || isThere(thing) ? -1 : n;
        }

        /** As days go nobody leaves a thing again: whom it is with first, it stays with. */
        int daysTillWith(int thing, int person, int most) {
            int n = daysTillGone(thing, most);
            return n >= 0 && withs[thing] == person ? n : -1;
        }

        int daysTillEmpty(int most) {
            for (int n = 0; n <= most; n++) {
                if (countWith(THERE) == 0) {
                    return n;
                }
                goDay();
            }
            return -1;
        }

        int countWith(int whom) {
            return Integer.bitCount(setOf(withs, whom));
        }

        int setOf(int[] row, int v) {
            int all = 0;
            for (int t = 0; t < things; t++) {
                if (row[t] == v) {
                    all |= 1 << t;
                }
            }
            return all;
        }

        int setForSale() {
            int all = 0;
            for (int t = 0; t < things; t++) {
                if (isThere(t) && maySell(t)) {
                    all |= 1 << t;
                }
            }
            return all;
        }

        int dueOfAllThere() {
            int all = 0;
            for (int t = 0; t < things; t++) {
                if (isThere(t)) {
                    all += dues[t];
                }
            }
            return all;
        }

        int meansOfAll() {
            int all = 0;
            for (int p = 0; p < PEOPLE; p++) {
                all += means[p];
            }
            return all;
        }

        int worthOfAll() {
            int all = 0;
            for (int t = 0; t < things; t++) {
                all += worths[t];
            }
            return all;
        }
    }

    private static final class Tape {
        private final byte[] bytes;
        private int length;

        Tape() {
            bytes = new byte[TAPE_LENGTH];
            length = 0;
        }

        /** The caller has seen that there is room. */
        void add(byte b) {
            bytes[length] = b;
            length++;
        }
    }

    /** THE TEXT of a STATION: a token is looked at until it is known to stand where it does. */
    private static final class Text {
        private static final int END = 0;
        private static final int WORD = 1;
        private static final int NUMBER = 2;
        private static final int SIGN = 3;
        private static final int NO_TOKEN = 4;
        private static final int MOST_NUMBER = 9999;

        private final Tape tape;
        private int at;
        private int token;
        private int place;
        private int number;

        Text() {
            tape = new Tape();
            at = 0;
            token = END;
            place = 0;
            number = 0;
        }

        /** How many items came, or -1 less the place of the fault. */
        int tellTo(Station station) {
            at = 0;
            advance();
            for (int items = 1; items <= TAPE_LENGTH; items++) {
                boolean told = isWord("means") ? tellPerson(station) : tellThing(station);
                if (told && token == END) {
                    return items;
                }
                if (!told || token != SIGN) {
                    return -1 - place;
                }
                advance();
            }
            return -1 - place;
        }

        private boolean tellThing(Station station) {
            int kind = kindNamed();
            if (kind < 0 || station.isFull()) {
                return false;
            }
            advance();
            int person = clause("for", PEOPLE - 1, 0);
            if (person < 0) {
                return false;
            }
            int due = clause("due", MOST_NUMBER, 0);
            if (due < 0) {
                return false;
            }
            int worth = clause("worth", MOST_NUMBER, FIRST_WORTH);
            if (worth < 0) {
                return false;
            }
            station.take(kind, person, due, worth);
            return true;
        }

        private boolean tellPerson(Station station) {
            advance();
            int person = numberUpTo(PEOPLE - 1);
            if (person < 0) {
                return false;
            }
            int means = numberUpTo(MOST_NUMBER);
            if (means < 0) {
                return false;
            }
            int earns = clause("earns", MOST_RATE, station.earns[person]);
            if (earns < 0) {
                return false;
            }
            int spends = clause("spends", MOST_RATE, station.spends[person]);
            if (spends < 0) {
                return false;
            }
            station.means[person] = means;
            station.earns[person] = earns;
            station.spends[person] = spends;
            return true;
        }

        /** The number behind a word; what else it is without that word; -1 with a fault. */
        private int clause(String word, int most, int otherwise) {
            if (!isWord(word)) {
                return otherwise;
            }
            advance();
            return numberUpTo(most);
        }

        private int numberUpTo(int most) {
            if (token != NUMBER || number > most) {
                return -1;
            }
            int v = number;
            advance();
            return v;
        }

        /** A number is held just above what may be, so that no row of digits wraps around. */
        private void advance() {
            while (at < tape.length && tape.bytes[at] == ' ') {
                at++;
            }
            place = at;
            token = tokenAt(at);
            number = 0;
            boolean isRun = token == WORD || token == NUMBER;
            while (at < tape.length && tokenAt(at) == token && (isRun || at == place)) {
                if (token == NUMBER) {
                    number = Math.min(MOST_NUMBER + 1, 10 * number + tape.bytes[at] - '0');
                }
                at++;
            }
        }

        private int tokenAt(int i) {
            if (i >= tape.length) {
                return END;
            }
            byte b = tape.bytes[i];
            if (b >= 'a' && b <= 'z') {
                return WORD;
            }
            if (b >= '0' && b <= '9') {
                return NUMBER;
            }
            return b == ';' ? SIGN : NO_TOKEN;
        }

        private boolean isWord(String word) {
            if (token != WORD || at - place != word.length()) {
                return false;
            }
            for (int i = 0; i < word.length() && place + i < tape.length; i++) {
                if (tape.bytes[place + i] != word.charAt(i)) {
                    return false;
                }
            }
            return true;
        }

        private int kindNamed() {
            for (int k = 0; k < KINDS; k++) {
                if (isWord(nameOf(k))) {
                    return k;
                }
            }
            return -1;
        }

        private static String nameOf(int kind) {
            switch (kind) {
                case PARCEL: return "parcel";
                case LADY: return "lady";
                case GLOVE: return "glove";
                case REGIMENT: return "regiment";
                case WIFE: return "wife";
                case HATBOX: return "hatbox";
                default: return "";
            }
        }
    }

    /** Its row is made once, as long as any may be; bits 0: it is MISSING. */
    private static final class Sheet {
        private int bits;
        private int length;
        private final long[] numbers;

        Sheet() {
            bits = 0;
            length = 0;
            numbers = new long[SHEET_LENGTH];
        }

        boolean isMissing() {
            return bits == 0;
        }

        void begin(int width, int n) {
            bits = width;
            length = n;
            for (int i = 0; i < SHEET_LENGTH; i++) {
                numbers[i] = 0;
            }
        }

        void put(int i, long v) {
            numbers[i] = bits == 8 ? (byte) v : bits == 16 ? (short) v : v;
        }

        /** Asked so that no sum wraps around. */
        boolean hasRun(int from, int n) {
            return from >= 0 && n >= 0 && n <= length && from <= length - n;
        }
    }
}
