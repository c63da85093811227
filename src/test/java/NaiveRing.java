import java.util.ArrayList;
import java.util.Arrays;
import java.util.List;
import java.util.function.IntPredicate;
import java.util.function.Predicate;

/**
 * The document told a second time, without any thought of speed or room and by other means than PeaceRing: real
 * exceptions, real inheritance, real arrays, conditions as functions, nothing remembered that can be worked out anew.
 */
final class NaiveRing {
    static final int BAD = -1, FULL = -2, NONE = -3, STATE = -4;

    static final class Refusal extends RuntimeException {
        private static final long serialVersionUID = 1L;
        final int code;

        Refusal(int code) {
            super(null, null, false, false);
            this.code = code;
        }
    }

    static final class Person {
        int cell, legs, state, since, aim = NONE, met = NONE, reached, port = NONE, owes;
        int[] heard = new int[8];

        Person copy() {
            Person p = new Person();
            p.cell = cell; p.legs = legs; p.state = state; p.since = since; p.aim = aim; p.met = met;
            p.reached = reached; p.port = port; p.owes = owes; p.heard = heard.clone();
            return p;
        }
    }

    record Deed(int person, int kind, int against, int hour, int cell, int known) { }

    record Taking(int taker, int whom, int hour, int cell, int owes, boolean lawful, boolean oath) { }

    record Post(int cell, int sight, int from, int to) {
        boolean sees(int at, int hour) {
            int clock = hour % 24;
            boolean manned = false;
            for (int c = from; ; c = (c + 1) % 24) {
                if (c == clock) manned = true;
                if (c == to) break;
            }
            return manned && far(cell, at) <= sight;
        }
    }

    record Facts(int age, int times, int degree, boolean inside, boolean night, boolean against) { }

    record Line(int kind, int number, Predicate<Facts> condition) { }

    record Version(int charter, List<Line> lines, int from, int till) {
        boolean inForce(int hour) {
            return from <= hour && (till == NONE || till > hour);
        }
    }

    static final class Kept {
        int now;
        int[] ground = new int[100];
        List<Person> persons = new ArrayList<>();
        List<int[]> stones = new ArrayList<>();
        List<Version> versions = new ArrayList<>();
        List<Deed> deeds = new ArrayList<>();
        int[][] ports = {{5, 7, 0}, {5, 7, 0}, {5, 7, 0}, {5, 7, 0}, {5, 7, 0}};
        List<Taking> takings = new ArrayList<>();
        List<Post> posts = new ArrayList<>();
        int bells;
        List<int[]> sights = new ArrayList<>();

        Kept copy() {
            Kept k = new Kept();
            k.now = now;
            k.ground = ground.clone();
            for (Person p : persons) k.persons.add(p.copy());
            k.stones.addAll(stones);
            k.versions.addAll(versions);
            k.deeds.addAll(deeds);
            for (int i = 0; i < 5; i++) k.ports[i] = ports[i].clone();
            k.takings.addAll(takings);
            k.posts.addAll(posts);
            k.bells = bells;
            k.sights.addAll(sights);
            return k;
        }
    }

    Kept w = new Kept();
    Kept kept;
    StringBuilder tape = new StringBuilder();
    List<int[]> rows = new ArrayList<>();
    List<int[]> truth;
    Object[] sheets = new Object[4];
    Object[] shelves = new Object[4];
    List<Integer> trace = new ArrayList<>();

    static void want(boolean is, int code) {
        if (!is) throw new Refusal(code);
    }

    static boolean in(int v, int least, int most) {
        return v >= least && v <= most;
    }

    static void wantCell(int cell) {
        want(in(cell, 0, 99), BAD);
    }

    static void wantHour(int hour) {
        want(in(hour, 0, 9999), BAD);
    }

    Person person(int p) {
        want(in(p, 0, w.persons.size() - 1), BAD);
        return w.persons.get(p);
    }

    static int far(int a, int b) {
        return Math.abs(a / 10 - b / 10) + Math.abs(a % 10 - b % 10);
    }

    static boolean isNight(int hour) {
        return hour % 24 >= 20 || hour % 24 < 6;
    }

    boolean wall(int cell) {
        return w.ground[cell] == 1;
    }

    /** CELLS to which a STEP goes from one, the least first. */
    List<Integer> beside(int x) {
        List<Integer> all = new ArrayList<>();
        for (int y : new int[] {x - 10, x - 1, x + 1, x + 10}) {
            if (in(y, 0, 99) && far(x, y) == 1 && !wall(y)) all.add(y);
        }
        return all;
    }

    /** By spreading again and again over the whole ground, till nothing gets nearer. */
    int way(int a, int b) {
        if (wall(a) || wall(b)) return NONE;
        int[] d = new int[100];
        Arrays.fill(d, 1000);
        d[a] = 0;
        for (boolean changed = true; changed; ) {
            changed = false;
            for (int x = 0; x < 100; x++) {
                for (int y : beside(x)) {
                    if (d[x] + 1 < d[y]) {
                        d[y] = d[x] + 1;
                        changed = true;
                    }
                }
            }
        }
        return d[b] == 1000 ? NONE : d[b];
    }

    // ---- the law

    /** Which LINES hold at an HOUR. */
    interface Force {
        List<int[]> at(int hour);
    }

    List<int[]> linesOf(int v) {
        List<int[]> all = new ArrayList<>();
        for (int i = 0; i < w.versions.get(v).lines().size(); i++) all.add(new int[] {v, i});
        return all;
    }

    List<int[]> inForce(int hour) {
        List<int[]> all = new ArrayList<>();
        for (int c = 0; c < 3; c++) {
            for (int v = 0; v < w.versions.size(); v++) {
                if (w.versions.get(v).charter() == c && w.versions.get(v).inForce(hour)) all.addAll(linesOf(v));
            }
        }
        return all;
    }

    Line lineAt(int[] place) {
        return w.versions.get(place[0]).lines().get(place[1]);
    }

    int ruled(List<int[]> lines, int what) {
        int[] now = {3, 0, 40};
        for (int[] place : lines) {
            Line l = lineAt(place);
            if (l.kind() == 0) now[0] = l.number();
            if (l.kind() == 1) now[1] = 0;
            if (l.kind() == 2) now[1] = 1;
            if (l.kind() == 3) now[2] = l.number();
        }
        return now[what];
    }

    boolean isWithin(int[] stone, int cell, int mile, int measure) {
        int d = measure == 1 ? far(stone[0], cell) : way(stone[0], cell);
        return d != NONE && d <= mile;
    }

    int degree(int cell, int mile, int measure) {
        int most = 0;
        for (int[] s : w.stones) if (isWithin(s, cell, mile, measure)) most = Math.max(most, s[1]);
        if (most == 0) return 0;
        return most + (w.ground[cell] == 2 ? 1 : w.ground[cell] == 3 ? 3 : 0);
    }

    int degree(int cell, int hour, Force force) {
        return degree(cell, ruled(force.at(hour), 0), ruled(force.at(hour), 1));
    }

    Facts facts(Deed d, int degree, int hour, Force force) {
        int times = 0;
        for (Deed e : w.deeds) {
            if (e.person() == d.person() && e.kind() == d.kind() && e.hour() <= d.hour()) times++;
        }
        boolean inside = degree(d.cell(), d.hour(), force) > 0;
        return new Facts(hour - d.hour(), times, degree, inside, isNight(d.hour()), d.against() >= 0);
    }

    /** Place of the LINE that tells, or null. */
    int[] tells(Deed d, int degree, int hour, Force force) {
        Facts f = facts(d, degree, hour, force);
        int[] last = null;
        for (int[] place : force.at(hour)) {
            Line l = lineAt(place);
            boolean named = l.kind() >= 5 && ((l.number() >> d.kind() & 1) == 1 || l.number() >= 64);
            if (named && (l.condition() == null || l.condition().test(f))) last = place;
        }
        return last;
    }

    boolean counts(Deed d, int degree, int hour, Force force) {
        int[] place = tells(d, degree, hour, force);
        return place == null || lineAt(place).kind() == 5;
    }

    int why(int p, int degree, int hour, int k, Force force) {
        for (int i = 0; i < w.deeds.size(); i++) {
            Deed d = w.deeds.get(i);
            boolean looked = d.person() == p && d.hour() <= hour && d.known() <= k;
            if (looked && !counts(d, degree, hour, force)) return i;
        }
        return degree > 0 ? NONE : -9;
    }

    int why(int p, int cell, int hour, int k) {
        return why(p, degree(cell, hour, this::inForce), hour, k, this::inForce);
    }

    boolean safeNow(int p) {
        return why(p, w.persons.get(p).cell, w.now, w.now) == NONE;
    }

    int cost(int p, int hour) {
        Deed latest = null;
        for (Deed d : w.deeds) if (d.person() == p && d.hour() <= hour) latest = d;
        int cost = 10;
        for (int[] place : inForce(hour)) {
            Line l = lineAt(place);
            if (l.kind() != 4) continue;
            boolean holds = l.condition() == null;
            if (!holds && latest != null) {
                int degree = degree(w.persons.get(p).cell, hour, this::inForce);
                holds = l.condition().test(facts(latest, degree, hour, this::inForce));
            }
            if (holds) cost = l.number();
        }
        return cost;
    }

    int bits(IntPredicate is) {
        int all = 0;
        for (int p = 0; p < w.persons.size(); p++) if (is.test(p)) all |= 1 << p;
        return all;
    }

    // ---- texts

    static final class Fault extends RuntimeException {
        private static final long serialVersionUID = 1L;
        final int place;

        Fault(int place) {
            super(null, null, false, false);
            this.place = place;
        }
    }

    /** Reads straight from the characters, each time skipping blanks first. */
    static final class Parser {
        final String text;
        int at;

        Parser(String text) {
            this.text = text;
        }

        void blanks() {
            while (at < text.length() && text.charAt(at) == ' ') at++;
        }

        String peek() {
            blanks();
            int end = at;
            while (end < text.length() && in(text.charAt(end), 'a', 'z')) end++;
            if (end == at) while (end < text.length() && in(text.charAt(end), '0', '9')) end++;
            if (end == at && end < text.length()) end++;
            return text.substring(at, end);
        }

        boolean eat(String word) {
            if (!peek().equals(word)) return false;
            at += word.length();
            return true;
        }

        void must(String word) {
            if (!eat(word)) throw new Fault(at);
        }

        int number(int most) {
            String n = peek();
            if (!n.matches("[0-9]{1,3}") || Integer.parseInt(n) > most) throw new Fault(at);
            at += n.length();
            return Integer.parseInt(n);
        }

        List<Line> text() {
            List<Line> lines = new ArrayList<>();
            while (!peek().isEmpty()) {
                if (lines.size() == 10) throw new Fault(at);
                lines.add(line());
                must(";");
            }
            return lines;
        }

        Line line() {
            if (eat("mile")) return new Line(0, number(18), null);
            if (eat("forty")) return new Line(3, number(999), null);
            if (eat("measure")) {
                if (eat("lanes")) return new Line(1, 0, null);
                must("straight");
                return new Line(2, 0, null);
            }
            if (eat("cost")) {
                int n = number(999);
                return new Line(4, n, condition());
            }
            int bits = kind();
            while (eat("and")) bits |= kind();
            int kind = eat("count") ? 5 : 6;
            if (kind == 6) must("fail");
            return new Line(kind, bits, condition());
        }

        int kind() {
            int i = Arrays.asList("theft", "blow", "killing", "debt", "oath", "treason", "any").indexOf(peek());
            if (i < 0) throw new Fault(at);
            at += peek().length();
            return 1 << i;
        }

        Predicate<Facts> condition() {
            return eat("if") ? or(0) : null;
        }

        Predicate<Facts> or(int open) {
            Predicate<Facts> all = and(open);
            while (eat("or")) all = all.or(and(open));
            return all;
        }

        Predicate<Facts> and(int open) {
            Predicate<Facts> all = one(open);
            while (eat("and")) all = all.and(one(open));
            return all;
        }

        Predicate<Facts> one(int open) {
            if (eat("not")) return one(open).negate();
            if (eat("inside")) return Facts::inside;
            if (eat("night")) return Facts::night;
            if (eat("against")) return Facts::against;
            if (eat("age")) {
                int n = above();
                return f -> f.age() > n;
            }
            if (eat("times")) {
                int n = above();
                return f -> f.times() > n;
            }
            if (eat("degree")) {
                int n = above();
                return f -> f.degree() > n;
            }
            if (open == 4) throw new Fault(at);
            must("(");
            Predicate<Facts> inner = or(open + 1);
            must(")");
            return inner;
        }

        int above() {
            must("above");
            return number(999);
        }
    }

    int read(int charter) {
        String text = tape.toString();
        tape.setLength(0);
        want(in(charter, 0, 2), BAD);
        List<Line> lines;
        Parser parser = new Parser(text);
        try {
            lines = parser.text();
        } catch (Fault f) {
            return -100 - f.place;
        }
        want(w.versions.size() < 12, FULL);
        end(charter);
        w.versions.add(new Version(charter, lines, w.now, NONE));
        return w.versions.size() - 1;
    }

    int end(int charter) {
        int ended = NONE;
        for (int v = 0; v < w.versions.size(); v++) {
            Version old = w.versions.get(v);
            if (old.charter() == charter && old.till() == NONE) {
                w.versions.set(v, new Version(charter, old.lines(), old.from(), w.now));
                ended = v;
            }
        }
        return ended;
    }

    // ---- hours, runs, watches

    int seers(int cell, int hour) {
        int all = 0;
        for (int i = 0; i < w.posts.size(); i++) if (w.posts.get(i).sees(cell, hour)) all |= 1 << i;
        return all;
    }

    void hour() {
        w.now++;
        for (Person p : w.persons) {
            for (int step = 0; step < p.legs && p.aim != NONE; step++) {
                int way = way(p.cell, p.aim);
                if (way == NONE) break;
                for (int c : beside(p.cell)) {
                    if (way(c, p.aim) == way - 1) {
                        p.cell = c;
                        break;
                    }
                }
                int seers = seers(p.cell, w.now);
                if (seers != 0) p.met = Integer.numberOfTrailingZeros(seers);
                else if (p.cell == p.aim) p.reached = 1;
                if (seers != 0 || p.cell == p.aim) p.aim = NONE;
            }
        }
        for (int b = 0; b < w.bells; b++) {
            for (Person teller : w.persons) {
                if (teller.heard[b] == NONE || teller.heard[b] >= w.now) continue;
                for (Person p : w.persons) if (p.cell == teller.cell && p.heard[b] == NONE) p.heard[b] = w.now;
            }
        }
    }

    record Path(int seen, List<int[]> rows) {
        boolean isBetter(Path other) {
            if (other == null || seen != other.seen) return other == null || seen < other.seen;
            if (rows.size() != other.rows.size()) return rows.size() < other.rows.size();
            for (int i = 0; i < rows.size(); i++) {
                if (rows.get(i)[0] != other.rows.get(i)[0]) return rows.get(i)[0] < other.rows.get(i)[0];
            }
            return false;
        }
    }

    /** From the beginning on, with the best whole path to each CELL by each number of STEPS. */
    Path path(int from, int to, int legs) {
        if (wall(from)) return null;
        Path[] layer = new Path[100];
        layer[from] = new Path(0, List.of());
        Path best = layer[to];
        for (int n = 1; n <= 60; n++) {
            Path[] next = new Path[100];
            int hour = w.now + (n - 1) / legs + 1;
            for (int c = 0; c < 100; c++) {
                if (layer[c] == null) continue;
                for (int d : beside(c)) {
                    int seen = seers(d, hour) != 0 ? 1 : 0;
                    if (next[d] != null && layer[c].seen() + seen > next[d].seen()) continue;
                    List<int[]> rows = new ArrayList<>(layer[c].rows());
                    rows.add(new int[] {d, seen});
                    Path path = new Path(layer[c].seen() + seen, rows);
                    if (path.isBetter(next[d])) next[d] = path;
                }
            }
            layer = next;
            if (layer[to] != null && layer[to].isBetter(best)) best = layer[to];
        }
        return best;
    }

    int run(int from, int to, int legs, int what) {
        want(in(from, 0, 99) && in(to, 0, 99) && in(legs, 1, 4) && in(what, 0, 2), BAD);
        Path path = path(from, to, legs);
        want(path != null, NONE);
        truth = path.rows();
        rows = new ArrayList<>();
        for (int[] row : truth) rows.add(row.clone());
        if (what == 0) return path.seen();
        if (what == 1) return truth.size();
        return truth.isEmpty() ? NONE : truth.get(0)[0];
    }

    int judge() {
        if (truth == null) return NONE;
        for (int i = 0; i < truth.size(); i++) {
            if (i >= rows.size() || !Arrays.equals(rows.get(i), truth.get(i))) return i + 1;
        }
        return 0;
    }

    int gap(int cell) {
        int longest = 0;
        for (int from = 0; from < 24; from++) {
            int row = 0;
            while (row < 24 && seers(cell, from + row) == 0) row++;
            longest = Math.max(longest, row);
        }
        return longest;
    }

    int watch() {
        int best = -1;
        for (int set = 0; set < 1 << w.posts.size(); set++) {
            boolean all = true;
            for (int[] s : w.stones) {
                for (int c = 0; c < 24; c++) all &= seers(s[0], c) == 0 || (seers(s[0], c) & set) != 0;
            }
            if (all && (best < 0 || Integer.bitCount(set) < Integer.bitCount(best))) best = set;
        }
        return best;
    }

    int both(int n, int m) {
        for (int mile = 18; mile >= 0; mile--) {
            int lost = 0;
            int out = 0;
            for (int p = 0; p < w.persons.size(); p++) {
                int i = p;
                int degree = degree(w.persons.get(p).cell, mile, ruled(inForce(w.now), 1));
                boolean safe = why(p, degree, w.now, w.now, this::inForce) == NONE;
                if (safeNow(p) && !safe) lost++;
                boolean doer = w.deeds.stream().anyMatch(d -> d.person() == i);
                if (w.persons.get(p).state < 5 && doer && !safe) out++;
            }
            if (lost <= n && out >= m) return mile;
        }
        return NONE;
    }

    boolean safeAlone(int p, int version) {
        Force force = hour -> linesOf(version);
        return why(p, degree(w.persons.get(p).cell, w.now, force), w.now, w.now, force) == NONE;
    }

    // ---- deals: a class for each KIND

    class State {
        int n, c, l;
        int guards(int x) { trace.add(10); return x + c; }
        int ends(int x) { trace.add(11); return guards(x) * 2; }
        int costs(int x) { trace.add(12); return ends(x) - n; }
        int parts(int x) { trace.add(13); return x / (c - 11); }
    }

    class Safe extends State {
        @Override int guards(int x) { trace.add(20); return super.guards(x) ^ l; }
        @Override int costs(int x) { trace.add(21); return super.costs(x) + 3; }
    }

    class Sworn extends Safe {
        @Override int ends(int x) { trace.add(30); return super.ends(x - 1); }
        @Override int parts(int x) { trace.add(31); return super.parts(x) + n; }
    }

    class Leaving extends Sworn {
        @Override int guards(int x) { trace.add(40); return 0 - super.guards(x); }
        @Override int ends(int x) { trace.add(41); return super.ends(x) + guards(1); }
    }

    class Dweller extends State {
        @Override int costs(int x) { trace.add(50); return super.costs(x) * l; }
    }

    class Taken extends State {
        @Override int ends(int x) { trace.add(60); return super.ends(x) ^ 5; }
        @Override int parts(int x) { trace.add(61); return super.parts(x + 2); }
    }

    class Broken extends Taken {
        @Override int costs(int x) { trace.add(70); return super.costs(x) - ends(0); }
        @Override int ends(int x) { trace.add(71); return super.ends(x) + n; }
    }

    static final Class<?>[] KINDS = {State.class, Safe.class, Sworn.class, Leaving.class, Dweller.class, Taken.class,
        Broken.class};
    static final Class<?>[] SORTS = {byte[].class, short[].class, int[].class, long[].class, boolean[].class};

    /** What a SHELF holds now: a State, a row, or null. */
    Object held(int shelf) {
        if (!(shelves[shelf] instanceof Integer p)) return shelves[shelf];
        if (p >= w.persons.size()) return null;
        Person person = w.persons.get(p);
        State s = switch (person.state) {
            case 0 -> new State();
            case 1 -> new Safe();
            case 2 -> new Sworn();
            case 3 -> new Leaving();
            case 4 -> new Dweller();
            case 5 -> new Taken();
            default -> new Broken();
        };
        s.n = p;
        s.c = person.cell;
        s.l = person.legs;
        return s;
    }

    int deal(int shelf, int deal, int x) {
        trace.clear();
        if (!in(shelf, 0, 3) || !in(deal, 0, 3) || !(held(shelf) instanceof State s)) return 0;
        try {
            return deal == 0 ? s.guards(x) : deal == 1 ? s.ends(x) : deal == 2 ? s.costs(x) : s.parts(x);
        } catch (ArithmeticException e) {
            return -15;
        }
    }

    int item(int sheet, int sort, int i) {
        want(in(sheet, 0, 3) && in(sort, 0, 4), BAD);
        Object row = sheets[sheet];
        try {
            switch (sort) {
                case 0: return ((byte[]) row)[i];
                case 1: return ((short[]) row)[i];
                case 2: return ((int[]) row)[i];
                case 3: return (int) ((long[]) row)[i];
                default: return ((boolean[]) row)[i] ? 1 : 0;
            }
        } catch (ClassCastException e) {
            return -13;
        } catch (NullPointerException e) {
            return -11;
        } catch (ArrayIndexOutOfBoundsException e) {
            return -12;
        }
    }

    int put(int sheet, int i, int v) {
        want(in(sheet, 0, 3), BAD);
        Object row = sheets[sheet];
        if (row == null) return -11;
        try {
            if (row instanceof byte[] a) a[i] = (byte) v;
            if (row instanceof short[] a) a[i] = (short) v;
            if (row instanceof int[] a) a[i] = v;
            if (row instanceof long[] a) a[i] = v;
            if (row instanceof boolean[] a) a[i] = v != 0;
            return 1;
        } catch (ArrayIndexOutOfBoundsException e) {
            return -12;
        }
    }

    int sheet(int sheet, int sort, int n) {
        want(in(sheet, 0, 3) && in(sort, -1, 4), BAD);
        if (sort == -1) {
            sheets[sheet] = null;
            return 1;
        }
        want(n <= 40, BAD);
        want(n >= 0, -14);
        sheets[sheet] = java.lang.reflect.Array.newInstance(SORTS[sort].getComponentType(), n);
        return 1;
    }

    int comes(int sheet, int i) {
        want(in(sheet, 0, 3), BAD);
        int[] told = new int[4];
        if (sheets[sheet] != null && !(sheets[sheet] instanceof byte[])) return -13;
        if (sheets[sheet] == null) return -11;
        byte[] row = (byte[]) sheets[sheet];
        for (int k = 0; k < 4; k++) {
            long place = (long) i + k;
            if (place < 0 || place >= row.length) return -12;
            told[k] = row[(int) place];
        }
        return call("post", new long[] {told[0], told[1], told[2], told[3]});
    }

    int taken(int shelf, int as) {
        want(in(shelf, 0, 3) && (in(as, 0, 6) || in(as, 10, 14)), BAD);
        Object held = held(shelf);
        Class<?> kind = as < 10 ? KINDS[as] : SORTS[as - 10];
        if (held != null && !kind.isInstance(held)) return -13;
        if (held == null) return -11;
        return held instanceof State s ? s.n : java.lang.reflect.Array.getLength(held);
    }

    // ---- the face

    int call(String name, long[] a) {
        try {
            return answer(name, a);
        } catch (Refusal r) {
            return r.code;
        }
    }

    private int answer(String name, long[] a) {
        int[] i = new int[a.length];
        for (int k = 0; k < a.length; k++) i[k] = (int) a[k];
        switch (name) {
            case "hours": {
                want(in(i[0], 1, 100), BAD);
                want(w.now + i[0] <= 9999, STATE);
                for (int k = 0; k < i[0]; k++) hour();
                return w.now;
            }
            case "ground": {
                wantCell(i[0]);
                want(in(i[1], 0, 3), BAD);
                int cell = i[0];
                boolean held = w.persons.stream().anyMatch(p -> p.cell == cell)
                    || w.stones.stream().anyMatch(s -> s[0] == cell) || w.posts.stream().anyMatch(p -> p.cell() == cell);
                want(i[1] != 1 || !held, STATE);
                int was = w.ground[cell];
                w.ground[cell] = i[1];
                return was;
            }
            case "between": {
                wantCell(i[0]);
                wantCell(i[1]);
                want(in(i[2], 0, 1), BAD);
                return i[2] == 0 ? way(i[0], i[1]) : far(i[0], i[1]);
            }
            case "person": {
                wantCell(i[0]);
                want(in(i[1], 1, 4), BAD);
                want(!wall(i[0]), STATE);
                want(w.persons.size() < 16, FULL);
                Person p = new Person();
                p.cell = i[0];
                p.legs = i[1];
                Arrays.fill(p.heard, NONE);
                w.persons.add(p);
                return w.persons.size() - 1;
            }
            case "move": {
                Person p = person(i[0]);
                wantCell(i[1]);
                want(!wall(i[1]), STATE);
                int was = p.cell;
                p.cell = i[1];
                p.aim = NONE;
                return was;
            }
            case "personOf": {
                Person p = person(i[0]);
                want(in(i[1], 0, 9), BAD);
                int deeds = (int) w.deeds.stream().filter(d -> d.person() == i[0]).count();
                return new int[] {p.cell, p.legs, p.state, p.since, p.aim, p.met, p.reached, p.port, p.owes, deeds}[i[1]];
            }
            case "stone": {
                wantCell(i[0]);
                want(in(i[1], 1, 9), BAD);
                want(!wall(i[0]), STATE);
                want(w.stones.size() < 6, FULL);
                w.stones.add(new int[] {i[0], i[1]});
                return w.stones.size() - 1;
            }
            case "within": {
                wantCell(i[0]);
                wantHour(i[1]);
                int all = 0;
                for (int s = 0; s < w.stones.size(); s++) {
                    int mile = ruled(inForce(i[1]), 0);
                    if (isWithin(w.stones.get(s), i[0], mile, ruled(inForce(i[1]), 1))) all |= 1 << s;
                }
                return all;
            }
            case "degree": {
                wantCell(i[0]);
                wantHour(i[1]);
                return degree(i[0], i[1], this::inForce);
            }
            case "feed": {
                want(in(i[1], 1, 8), BAD);
                want(tape.length() + i[1] <= 300, FULL);
                for (int k = 0; k < i[1]; k++) tape.append((char) (a[0] >> 8 * k & 255));
                return tape.length();
            }
            case "read": return read(i[0]);
            case "strike": {
                want(in(i[0], 0, 2), BAD);
                return end(i[0]);
            }
            case "version": {
                want(in(i[0], 0, w.versions.size() - 1), BAD);
                Version v = w.versions.get(i[0]);
                if (in(i[1], 0, 3)) return new int[] {v.charter(), v.lines().size(), v.from(), v.till()}[i[1]];
                want(in(i[1], 10, 9 + v.lines().size()), BAD);
                Line l = v.lines().get(i[1] - 10);
                return l.kind() * 1000 + l.number();
            }
            case "rule": {
                wantHour(i[0]);
                want(in(i[1], 0, 2), BAD);
                return ruled(inForce(i[0]), i[1]);
            }
            default: return answerOfDeeds(name, i);
        }
    }

    private int answerOfDeeds(String name, int[] i) {
        switch (name) {
            case "deed": {
                person(i[0]);
                if (i[2] != -1) person(i[2]);
                want(in(i[1], 0, 5) && in(i[3], 0, w.now) && in(i[5], i[3], 9999), BAD);
                wantCell(i[4]);
                want(w.deeds.size() < 24, FULL);
                w.deeds.add(new Deed(i[0], i[1], i[2], i[3], i[4], i[5]));
                return w.deeds.size() - 1;
            }
            case "counts", "line": {
                want(in(i[0], 0, w.deeds.size() - 1), BAD);
                wantCell(i[1]);
                wantHour(i[2]);
                Deed d = w.deeds.get(i[0]);
                want(i[2] >= d.hour(), BAD);
                int degree = degree(i[1], i[2], this::inForce);
                if (name.equals("counts")) return counts(d, degree, i[2], this::inForce) ? 1 : 0;
                int[] place = tells(d, degree, i[2], this::inForce);
                return place == null ? NONE : 100 * place[0] + place[1];
            }
            case "safe", "why": {
                person(i[0]);
                wantCell(i[1]);
                wantHour(i[2]);
                wantHour(i[3]);
                int why = why(i[0], i[1], i[2], i[3]);
                return name.equals("why") ? why : why == NONE ? 1 : 0;
            }
            case "cost": {
                person(i[0]);
                wantHour(i[1]);
                return cost(i[0], i[1]);
            }
            case "seek": {
                Person p = person(i[0]);
                want(p.state == 0 && safeNow(i[0]), STATE);
                return become(p, 1);
            }
            case "swear": {
                Person p = person(i[0]);
                want(p.state == 1 && w.now - p.since <= 24 * ruled(inForce(w.now), 2), STATE);
                return become(p, 2);
            }
            case "leave": {
                Person p = person(i[0]);
                want(in(i[1], 0, 4), BAD);
                want(p.state == 2, STATE);
                int day = sailDay(i[1], w.now / 24 + w.ports[i[1]][0]);
                want(day != NONE, NONE);
                become(p, 3);
                p.port = i[1];
                return day;
            }
            case "dwell": {
                Person p = person(i[0]);
                boolean more = w.deeds.stream().anyMatch(d -> d.person() == i[0] && d.known() <= w.now && d.kind() != 3);
                want(p.state == 1 && !more, STATE);
                return become(p, 4);
            }
            case "port": {
                want(in(i[0], 0, 4) && in(i[1], 0, 2), BAD);
                want(i[1] == 2 ? in(i[2], 0, 29) : in(i[2], 1, 30), BAD);
                int was = w.ports[i[0]][i[1]];
                w.ports[i[0]][i[1]] = i[2];
                return was;
            }
            case "sails": {
                Person p = person(i[0]);
                want(in(i[1], 0, 2), BAD);
                want(p.state == 3, STATE);
                int come = p.since / 24 + w.ports[p.port][0];
                int day = sailDay(p.port, come);
                if (i[1] == 0) return come;
                return day == NONE ? NONE : i[1] == 1 ? day : day - come;
            }
            case "take": return take(i[0], i[1]);
            case "taking": {
                want(in(i[0], 0, w.takings.size() - 1) && in(i[1], 0, 5), BAD);
                Taking t = w.takings.get(i[0]);
                boolean was = !t.oath() && why(t.whom(), t.cell(), t.hour(), 9999) != NONE;
                int right = (t.lawful() ? 1 : 0) + (was ? 2 : 0);
                return new int[] {t.taker(), t.whom(), t.hour(), t.cell(), t.owes(), right}[i[1]];
            }
            default: return answerOfPosts(name, i);
        }
    }

    private int become(Person p, int state) {
        p.state = state;
        p.since = w.now;
        return 1;
    }

    private int sailDay(int port, int come) {
        for (int day = come; day < come + 100; day++) if (day % w.ports[port][1] == w.ports[port][2]) return day;
        return NONE;
    }

    private int take(int taker, int whom) {
        Person t = person(taker);
        Person p = person(whom);
        want(t != p, BAD);
        want(t.state < 5 && p.state < 5, STATE);
        want(w.takings.size() < 16, FULL);
        boolean oath = p.state == 2 || p.state == 3;
        boolean lawful = !oath && !safeNow(whom);
        int owes = lawful ? 0 : cost(whom, w.now) * Math.max(1, degree(p.cell, w.now, this::inForce));
        w.takings.add(new Taking(taker, whom, w.now, p.cell, owes, lawful, oath));
        t.owes += owes;
        become(p, lawful ? 5 : 6);
        p.aim = NONE;
        return w.takings.size() - 1;
    }

    private int answerOfPosts(String name, int[] i) {
        switch (name) {
            case "post": {
                wantCell(i[0]);
                want(in(i[1], 0, 4) && in(i[2], 0, 23) && in(i[3], 0, 23), BAD);
                want(!wall(i[0]), STATE);
                want(w.posts.size() < 8, FULL);
                w.posts.add(new Post(i[0], i[1], i[2], i[3]));
                return w.posts.size() - 1;
            }
            case "sees": {
                wantCell(i[0]);
                wantHour(i[1]);
                return seers(i[0], i[1]);
            }
            case "aim": {
                Person p = person(i[0]);
                wantCell(i[1]);
                want(p.state < 5 && p.cell != i[1], STATE);
                int was = p.aim;
                p.aim = i[1];
                p.reached = 0;
                return was;
            }
            case "run": return run(i[0], i[1], i[2], i[3]);
            case "row": return in(i[0], 0, rows.size() - 1) && in(i[1], 0, 1) ? rows.get(i[0])[i[1]] : -9;
            case "alterRow": {
                want(in(i[0], 0, rows.size() - 1) && in(i[1], 0, 1), -9);
                int was = rows.get(i[0])[i[1]];
                rows.get(i[0])[i[1]] = i[2];
                return was;
            }
            case "dropRow": {
                want(!rows.isEmpty(), NONE);
                rows.remove(rows.size() - 1);
                return rows.size();
            }
            case "judge": return judge();
            case "gap": {
                want(in(i[0], 0, w.stones.size() - 1), BAD);
                return gap(w.stones.get(i[0])[0]);
            }
            case "watch": return watch();
            case "bell": {
                wantCell(i[0]);
                want(in(i[1], 0, 18), BAD);
                want(w.bells < 8, FULL);
                for (Person p : w.persons) if (far(p.cell, i[0]) <= i[1]) p.heard[w.bells] = w.now;
                return w.bells++;
            }
            case "heard": {
                Person p = person(i[0]);
                want(in(i[1], 0, w.bells - 1), BAD);
                return p.heard[i[1]];
            }
            case "sight": {
                wantCell(i[0]);
                want(in(i[1], 0, w.now) && in(i[2], 0, 4), BAD);
                want(isNight(i[1]), STATE);
                want(w.sights.size() < 16, FULL);
                w.sights.add(new int[] {i[0], i[1], i[2]});
                return w.sights.size() - 1;
            }
            case "who": {
                want(in(i[0], 0, w.sights.size() - 1), BAD);
                return who(w.sights.get(i[0]));
            }
            case "narrow": {
                want(in(i[0], 0, w.versions.size() - 1) && in(i[1], 0, w.versions.size() - 1), BAD);
                return bits(p -> safeAlone(p, i[0]) && !safeAlone(p, i[1]));
            }
            case "both": {
                want(in(i[0], 0, 16) && in(i[1], 0, 16), BAD);
                return both(i[0], i[1]);
            }
            default: return answerOfHost(name, i);
        }
    }

    private int who(int[] s) {
        int since = 0;
        for (int hour = s[1]; Math.floorMod(hour, 24) != 20; hour--) since++;
        int hours = since;
        return bits(p -> {
            Person q = w.persons.get(p);
            int way = way(q.cell, s[0]);
            return q.state == 4 && (s[2] == 0 || s[2] == q.legs) && way != NONE && way <= q.legs * hours;
        });
    }

    private int answerOfHost(String name, int[] i) {
        switch (name) {
            case "sheet": return sheet(i[0], i[1], i[2]);
            case "put": return put(i[0], i[1], i[2]);
            case "item": return item(i[0], i[1], i[2]);
            case "comes": return comes(i[0], i[1]);
            case "shelf": {
                want(in(i[0], 0, 3) && in(i[1], 0, 2), BAD);
                if (i[1] == 0) person(i[2]);
                if (i[1] == 1) want(in(i[2], 0, 3), BAD);
                shelves[i[0]] = i[1] == 0 ? (Object) i[2] : i[1] == 1 ? sheets[i[2]] : null;
                return 1;
            }
            case "taken": return taken(i[0], i[1]);
            case "deal": return deal(i[0], i[1], i[2]);
            case "trace": return in(i[0], 0, trace.size() - 1) ? trace.get(i[0]) : NONE;
            case "many": {
                want(in(i[0], 0, 13), BAD);
                int runners = (int) w.persons.stream().filter(p -> p.aim != NONE).count();
                return new int[] {w.now, w.persons.size(), w.stones.size(), w.versions.size(), w.deeds.size(),
                    w.takings.size(), w.posts.size(), runners, w.bells, w.sights.size(), rows.size(), tape.length(),
                    trace.size(), Integer.bitCount(bits(this::safeNow))}[i[0]];
            }
            case "keep":
                kept = w.copy();
                return 1;
            case "again":
                want(kept != null, NONE);
                w = kept.copy();
                return 1;
            default: throw new IllegalStateException(name);
        }
    }
}
