import java.util.ArrayList;
import java.util.List;

/**
 * The document once more, told as slowly as it can be: every look ahead is a fresh copy that goes
 * on day by day, with no shortcut. ModelTest holds the class against it.
 */
final class Model {
    static final int BEYOND = -1000000001;
    static final int FULL = -1000000002;
    static final int KIND = -1000000003;
    static final int NONE = -1000000004;
    static final int STATE = -1000000005;
    static final int MISSING = -1000000006;
    static final int SIZE = -1000000007;

    static final String[] NAMES = {"parcel", "lady", "glove", "regiment", "wife", "hatbox"};

    static final class Person {
        int means = 100;
        int earns = 10;
        int spends = 5;
    }

    static final class Thing {
        int kind;
        int label;
        int left;
        int due;
        int worth = 100;
        int with = -1;
    }

    static final class World {
        int day;
        int taken;
        final List<Person> people = new ArrayList<>();
        final List<Thing> things = new ArrayList<>();

        World() {
            for (int i = 0; i < 6; i++) {
                people.add(new Person());
            }
        }

        World twin() {
            World w = new World();
            w.day = day;
            w.taken = taken;
            for (int i = 0; i < 6; i++) {
                w.people.get(i).means = people.get(i).means;
                w.people.get(i).earns = people.get(i).earns;
                w.people.get(i).spends = people.get(i).spends;
            }
            for (Thing t : things) {
                Thing c = new Thing();
                c.kind = t.kind;
                c.label = t.label;
                c.left = t.left;
                c.due = t.due;
                c.worth = t.worth;
                c.with = t.with;
                w.things.add(c);
            }
            return w;
        }

        static int mounts(String kind, int d, int worth) {
            switch (kind) {
                case "parcel": return 2;
                case "lady": return 3 * mounts("parcel", d, worth);
                case "glove": return d % 2 == 0 ? 1 : 0;
                case "regiment": return mounts("parcel", d, worth) + worth / 100;
                case "wife": return mounts("lady", d, worth) + d / 10;
                default: return mounts("glove", d, worth) + 1;
            }
        }

        static boolean sold(String kind, int due, int worth, int d) {
            switch (kind) {
                case "parcel": return due > worth;
                case "lady": return sold("parcel", due, worth, d);
                case "glove": return due > worth / 2;
                case "regiment": return false;
                case "wife": return !(d < 30) && sold("lady", due, worth, d);
                default: return sold("glove", due, worth, d);
            }
        }

        static int bids(String kind, int worth, int m) {
            int b;
            switch (kind) {
                case "parcel": b = worth / 2; break;
                case "lady": b = bids("parcel", worth, m) + m / 100; break;
                case "glove": b = bids("parcel", worth, m); break;
                case "regiment": b = 0; break;
                case "wife": b = 2 * bids("lady", worth, m); break;
                default: b = bids("glove", worth, m) + 5; break;
            }
            return b > m ? m : b;
        }

        int mounts(Thing t) {
            return mounts(NAMES[t.kind], day - t.left, t.worth);
        }

        boolean sold(Thing t) {
            return sold(NAMES[t.kind], t.due, t.worth, day - t.left);
        }

        int bids(Thing t, int person) {
            return bids(NAMES[t.kind], t.worth, people.get(person).means);
        }

        void called(Thing t) {
            Person p = people.get(t.label);
            p.means -= t.due;
            taken += t.due;
            if (taken > 99999999) {
                taken = 99999999;
            }
            t.due = 0;
            t.with = t.label;
        }

        void day() {
            for (Thing t : things) {
                if (t.with == -1) {
                    t.due += mounts(t);
                    if (t.due > 999999) {
                        t.due = 999999;
                    }
                }
            }
            for (Person p : people) {
                p.means += p.earns;
                if (p.means > 999999) {
                    p.means = 999999;
                }
                p.means -= p.spends;
                if (p.means < 0) {
                    p.means = 0;
                }
            }
            for (int i = 0; i < 6; i++) {
                for (Thing t : things) {
                    if (t.with == -1 && t.label == i && t.due <= people.get(i).means) {
                        called(t);
                        break;
                    }
                }
            }
            day++;
            if (day % 7 == 0) {
                for (Thing t : things) {
                    if (t.with == -1 && sold(t)) {
                        sell(t);
                    }
                }
            }
        }

        void sell(Thing t) {
            int best = -1;
            for (int i = 5; i >= 0; i--) {
                if (i != t.label && bids(t, i) > 0 && (best < 0 || bids(t, i) >= bids(t, best))) {
                    best = i;
                }
            }
            if (best < 0) {
                return;
            }
            int price = bids(t, best);
            people.get(best).means -= price;
            taken = Math.min(99999999, taken + price);
            t.due = 0;
            t.with = best;
            t.label = best;
        }

        World on(int n) {
            World w = twin();
            for (int i = 0; i < n; i++) {
                w.day();
            }
            return w;
        }

        int with(int person) {
            int c = 0;
            for (Thing t : things) {
                if (t.with == person) {
                    c++;
                }
            }
            return c;
        }

        int setThere() {
            int s = 0;
            for (int i = 0; i < things.size(); i++) {
                if (things.get(i).with == -1) {
                    s += 1 << i;
                }
            }
            return s;
        }
    }

    World w = new World();
    World kept = null;
    final ArrayList<Integer> tape = new ArrayList<>();
    final int[] bits = new int[4];
    final long[][] rows = new long[4][];
    final int[] found = new int[7];

    private int f(int finding) {
        found[-1000000001 - finding]++;
        return finding;
    }

    private boolean noThing(int t) {
        return t < 0 || t >= w.things.size();
    }

    private static boolean out(int v, int a, int b) {
        return v < a || v > b;
    }

    int person(int person, int what, int v) {
        if (out(person, 0, 5) || out(what, 0, 2) || out(v, 0, what == 0 ? 999999 : 999)) {
            return f(BEYOND);
        }
        Person p = w.people.get(person);
        int was;
        if (what == 0) {
            was = p.means;
            p.means = v;
        } else if (what == 1) {
            was = p.earns;
            p.earns = v;
        } else {
            was = p.spends;
            p.spends = v;
        }
        return was;
    }

    int personOf(int person, int what) {
        if (out(person, 0, 5) || out(what, 0, 4)) {
            return f(BEYOND);
        }
        Person p = w.people.get(person);
        if (what < 3) {
            return new int[] {p.means, p.earns, p.spends}[what];
        }
        int s = 0;
        for (int i = 0; i < w.things.size(); i++) {
            Thing t = w.things.get(i);
            if ((what == 3 ? t.label : t.with) == person) {
                s |= 1 << i;
            }
        }
        return s;
    }

    int thing(int kind, int person) {
        if (out(kind, 0, 5) || out(person, 0, 5)) {
            return f(BEYOND);
        }
        if (w.things.size() == 8) {
            return f(FULL);
        }
        Thing t = new Thing();
        t.kind = kind;
        t.label = person;
        t.left = w.day;
        w.things.add(t);
        return w.things.size() - 1;
    }

    int of(int thing, int what) {
        if (noThing(thing) || out(what, 0, 7)) {
            return f(BEYOND);
        }
        Thing t = w.things.get(thing);
        return new int[] {t.kind, t.label, t.left, t.due, t.worth, t.with, w.mounts(t), w.sold(t) ? 1 : 0}[what];
    }

    int set(int thing, int what, int v) {
        if (noThing(thing) || what != 1 && what != 3 && what != 4) {
            return f(BEYOND);
        }
        if (out(v, 0, what == 1 ? 5 : what == 3 ? 999999 : 9999)) {
            return f(BEYOND);
        }
        Thing t = w.things.get(thing);
        int was;
        if (what == 1) {
            was = t.label;
            t.label = v;
        } else if (what == 3) {
            was = t.due;
            t.due = v;
        } else {
            was = t.worth;
            t.worth = v;
        }
        return was;
    }

    int turn(int thing, int kind) {
        if (noThing(thing) || out(kind, 0, 5)) {
            return f(BEYOND);
        }
        int was = w.things.get(thing).kind;
        w.things.get(thing).kind = kind;
        return was;
    }

    int as(int thing, int kind) {
        if (noThing(thing) || out(kind, 0, 5)) {
            return f(BEYOND);
        }
        int k = w.things.get(thing).kind;
        boolean is = kind == 0 || k == kind || kind == 1 && k == 4 || kind == 2 && k == 5;
        return is ? w.things.get(thing).due : f(KIND);
    }

    int bid(int thing, int person) {
        if (noThing(thing) || out(person, 0, 5)) {
            return f(BEYOND);
        }
        return w.bids(w.things.get(thing), person);
    }

    int call(int thing) {
        if (noThing(thing)) {
            return f(BEYOND);
        }
        Thing t = w.things.get(thing);
        if (t.with != -1 || w.people.get(t.label).means < t.due) {
            return f(STATE);
        }
        int paid = t.due;
        w.called(t);
        return paid;
    }

    int leave(int thing) {
        if (noThing(thing)) {
            return f(BEYOND);
        }
        Thing t = w.things.get(thing);
        if (t.with == -1) {
            return f(STATE);
        }
        t.label = t.with;
        t.due = 0;
        t.left = w.day;
        t.with = -1;
        return t.label;
    }

    int days(int n) {
        if (out(n, 1, 100)) {
            return f(BEYOND);
        }
        if (w.day + n > 9999) {
            return f(STATE);
        }
        w = w.on(n);
        return w.setThere();
    }

    int now(int what) {
        int due = 0;
        int sold = 0;
        for (int i = 0; i < w.things.size(); i++) {
            Thing t = w.things.get(i);
            if (t.with == -1) {
                due += t.due;
                sold |= w.sold(t) ? 1 << i : 0;
            }
        }
        int means = 0;
        for (Person p : w.people) {
            means += p.means;
        }
        int[] all = {w.day, w.taken, w.setThere(), due, means, sold};
        return out(what, 0, 5) ? f(BEYOND) : all[what];
    }

    int on(int thing, int n, int what) {
        if (noThing(thing) || out(n, 0, 100) || out(what, 0, 1)) {
            return f(BEYOND);
        }
        Thing t = w.on(n).things.get(thing);
        return what == 0 ? t.due : t.with;
    }

    int means(int person, int n) {
        return out(person, 0, 5) || out(n, 0, 100) ? f(BEYOND) : w.on(n).people.get(person).means;
    }

    int gone(int thing) {
        if (noThing(thing)) {
            return f(BEYOND);
        }
        World x = w.twin();
        for (int n = 0; n <= 200; n++) {
            if (x.things.get(thing).with != -1) {
                return n;
            }
            x.day();
        }
        return f(NONE);
    }

    private static int comes(World from, int thing, int person, int most) {
        World x = from.twin();
        for (int n = 0; n <= most; n++) {
            if (x.things.get(thing).with == person) {
                return n;
            }
            x.day();
        }
        return -1;
    }

    int comes(int thing, int person) {
        if (noThing(thing) || out(person, 0, 5)) {
            return f(BEYOND);
        }
        int n = comes(w, thing, person, 200);
        return n < 0 ? f(NONE) : n;
    }

    int empty() {
        World x = w.twin();
        for (int n = 0; n <= 200; n++) {
            if (x.setThere() == 0) {
                return n;
            }
            x.day();
        }
        return f(NONE);
    }

    int enough(int thing, int person, int n) {
        if (noThing(thing) || out(person, 0, 5) || out(n, 1, 60)) {
            return f(BEYOND);
        }
        World x = w.twin();
        for (int m = 0; m <= 999; m++) {
            x.people.get(person).means = m;
            if (x.on(n).things.get(thing).with == person) {
                return m;
            }
        }
        return f(NONE);
    }

    int spend(int thing, int person, int n) {
        if (noThing(thing) || out(person, 0, 5) || out(n, 1, 60)) {
            return f(BEYOND);
        }
        World x = w.twin();
        int best = -1;
        for (int v = 0; v <= 99; v++) {
            x.people.get(person).spends = v;
            if (x.on(n).things.get(thing).with == person) {
                best = v;
            }
        }
        return best < 0 ? f(NONE) : best;
    }

    int kind(int thing, int person) {
        if (noThing(thing) || out(person, 0, 5)) {
            return f(BEYOND);
        }
        int best = -1;
        int when = 999;
        for (int k = 0; k < 6; k++) {
            World x = w.twin();
            x.things.get(thing).kind = k;
            int n = comes(x, thing, person, 100);
            if (n >= 0 && n < when) {
                when = n;
                best = k;
            }
        }
        return best < 0 ? f(NONE) : best;
    }

    int label(int thing) {
        if (noThing(thing)) {
            return f(BEYOND);
        }
        if (w.things.get(thing).with != -1) {
            return f(STATE);
        }
        World[] xs = new World[6];
        for (int p = 0; p < 6; p++) {
            xs[p] = w.twin();
            xs[p].things.get(thing).label = p;
        }
        for (int n = 0; n <= 100; n++) {
            for (int p = 0; p < 6; p++) {
                if (xs[p].things.get(thing).with != -1) {
                    return p;
                }
                xs[p].day();
            }
        }
        return f(NONE);
    }

    int first(int person, int n) {
        if (out(person, 0, 5) || out(n, 1, 60)) {
            return f(BEYOND);
        }
        int[] many = new int[w.things.size() + 1];
        many[0] = w.on(n).with(person);
        int max = many[0];
        for (int i = 0; i < w.things.size(); i++) {
            World x = w.twin();
            Thing t = x.things.get(i);
            many[i + 1] = -1;
            if (t.with == -1 && t.label == person && t.due <= x.people.get(person).means) {
                x.called(t);
                many[i + 1] = x.on(n).with(person);
            }
            max = Math.max(max, many[i + 1]);
        }
        int i = 0;
        while (many[i] != max) {
            i++;
        }
        return i;
    }

    int worth(int thing, int n) {
        if (noThing(thing) || out(n, 1, 60)) {
            return f(BEYOND);
        }
        World x = w.twin();
        for (int v = 0; v <= 999; v++) {
            x.things.get(thing).worth = v;
            if (x.on(n).things.get(thing).with == -1) {
                return v;
            }
        }
        return f(NONE);
    }

    int most(int n) {
        if (out(n, 0, 100)) {
            return f(BEYOND);
        }
        World x = w.on(n);
        int best = 5;
        for (int p = 4; p >= 0; p--) {
            if (x.with(p) >= x.with(best)) {
                best = p;
            }
        }
        return best;
    }

    int feed(int bytes, int n) {
        if (out(n, 1, 4)) {
            return f(BEYOND);
        }
        if (tape.size() + n > 120) {
            return f(FULL);
        }
        int[] all = {bytes >>> 24, bytes >>> 16 & 255, bytes >>> 8 & 255, bytes & 255};
        for (int i = 4 - n; i < 4; i++) {
            tape.add(all[i]);
        }
        return tape.size();
    }

    int wipe() {
        int had = tape.size();
        tape.clear();
        return had;
    }

    private static final class Token {
        final String text;
        final int place;

        Token(String text, int place) {
            this.text = text;
            this.place = place;
        }
    }

    private static final class Fault extends Exception {
        private static final long serialVersionUID = 1L;
        final int place;

        Fault(int place) {
            super("fault");
            this.place = place;
        }
    }

    private List<Token> tokens;
    private int next;

    /** Cut by a pattern, unlike the class; a byte that begins no token is a token of its own. */
    private void cut() {
        StringBuilder all = new StringBuilder();
        for (int b : tape) {
            all.append((char) b);
        }
        tokens = new ArrayList<>();
        java.util.regex.Matcher m =
            java.util.regex.Pattern.compile(" +|[a-z]+|[0-9]+|(?s:.)").matcher(all);
        while (m.find()) {
            if (m.group().charAt(0) != ' ') {
                tokens.add(new Token(m.group(), m.start()));
            }
        }
        tokens.add(new Token("", tape.size()));
        next = 0;
    }

    private int number(int most) throws Fault {
        Token t = tokens.get(next);
        if (!t.text.matches("[0-9]+") || new java.math.BigInteger(t.text).compareTo(java.math.BigInteger.valueOf(most)) > 0) {
            throw new Fault(t.place);
        }
        next++;
        return Integer.parseInt(t.text.replaceFirst("^0+(?=.)", ""));
    }

    private int perhaps(String word, int most, int otherwise) throws Fault {
        if (!tokens.get(next).text.equals(word)) {
            return otherwise;
        }
        next++;
        return number(most);
    }

    private void item(World x) throws Fault {
        Token t = tokens.get(next);
        if (t.text.equals("means")) {
            next++;
            Person p = x.people.get(number(5));
            p.means = number(9999);
            p.earns = perhaps("earns", 999, p.earns);
            p.spends = perhaps("spends", 999, p.spends);
            return;
        }
        int kind = List.of(NAMES).indexOf(t.text);
        if (kind < 0 || x.things.size() == 8) {
            throw new Fault(t.place);
        }
        next++;
        Thing n = new Thing();
        n.kind = kind;
        n.left = x.day;
        n.label = perhaps("for", 5, 0);
        n.due = perhaps("due", 9999, 0);
        n.worth = perhaps("worth", 9999, 100);
        x.things.add(n);
    }

    int station() {
        World x = w.twin();
        cut();
        tape.clear();
        try {
            item(x);
            int items = 1;
            while (tokens.get(next).text.equals(";")) {
                next++;
                item(x);
                items++;
            }
            if (!tokens.get(next).text.isEmpty()) {
                throw new Fault(tokens.get(next).place);
            }
            w = x;
            return items;
        } catch (Fault fault) {
            return -1 - fault.place;
        }
    }

    int sheet(int s, int b, int n) {
        if (out(s, 0, 3) || b != 0 && b != 8 && b != 16 && b != 64) {
            return f(BEYOND);
        }
        if (n < 0) {
            return f(SIZE);
        }
        if (n > 40) {
            return f(BEYOND);
        }
        bits[s] = b;
        rows[s] = b == 0 ? null : new long[n];
        return b == 0 ? 0 : n;
    }

    private static long low(long v, int b) {
        return v << (64 - b) >> (64 - b);
    }

    long write(int s, int i, long v) {
        if (out(s, 0, 3)) {
            return f(BEYOND);
        }
        if (rows[s] == null) {
            return f(MISSING);
        }
        if (out(i, 0, rows[s].length - 1)) {
            return f(BEYOND);
        }
        long was = rows[s][i];
        rows[s][i] = low(v, bits[s]);
        return was;
    }

    int copy(int s, int from, int t, int to, int n) {
        if (out(s, 0, 3) || out(t, 0, 3)) {
            return f(BEYOND);
        }
        if (rows[s] == null || rows[t] == null) {
            return f(MISSING);
        }
        if (bits[s] != bits[t]) {
            return f(KIND);
        }
        if (from < 0 || to < 0 || n < 0 || (long) from + n > rows[s].length || (long) to + n > rows[t].length) {
            return f(BEYOND);
        }
        long[] was = rows[s].clone();
        for (int i = 0; i < n; i++) {
            rows[t][to + i] = was[from + i];
        }
        return n;
    }

    int lays(int s) {
        if (out(s, 0, 3)) {
            return f(BEYOND);
        }
        if (rows[s] == null) {
            return f(MISSING);
        }
        int came = 0;
        for (int i = 0; i < rows[s].length; i++) {
            if (i < 6 && rows[s][i] >= 0 && rows[s][i] <= 999999) {
                w.people.get(i).means = (int) rows[s][i];
                came++;
            }
        }
        return came;
    }

    int book(int s, int thing) {
        if (out(s, 0, 3)) {
            return f(BEYOND);
        }
        if (rows[s] == null) {
            return f(MISSING);
        }
        if (noThing(thing)) {
            return f(BEYOND);
        }
        for (int i = 0; i < rows[s].length; i++) {
            rows[s][i] = low(w.on(i).things.get(thing).due, bits[s]);
        }
        return rows[s].length;
    }

    int read(int s, int thing) {
        if (out(s, 0, 3)) {
            return f(BEYOND);
        }
        if (rows[s] == null) {
            return f(MISSING);
        }
        if (noThing(thing)) {
            return f(BEYOND);
        }
        int pairs = 0;
        for (int pair = 0; pair < 36; pair++) {
            World x = w.twin();
            x.things.get(thing).kind = pair / 6;
            x.things.get(thing).label = pair % 6;
            boolean so = true;
            for (long v : rows[s]) {
                so &= x.things.get(thing).due == v;
                x.day();
            }
            pairs += so ? 1 : 0;
        }
        return pairs;
    }

    int image() {
        kept = w.twin();
        return 1;
    }

    int undo() {
        if (kept == null) {
            return f(NONE);
        }
        w = kept.twin();
        return w.things.size();
    }

    int tear() {
        int was = kept == null ? 0 : 1;
        kept = null;
        return was;
    }

    int count(int what) {
        int worth = 0;
        for (Thing t : w.things) {
            worth += t.worth;
        }
        int[] all = {w.things.size(), tape.size(), w.with(-1), worth};
        return out(what, 0, 3) ? f(BEYOND) : all[what];
    }

    int status(int which) {
        if (out(which, -1, 6)) {
            return f(BEYOND);
        }
        int all = 0;
        for (int n : found) {
            all += n;
        }
        return which < 0 ? all : found[which];
    }
}
