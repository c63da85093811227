import java.lang.reflect.Method;
import java.util.ArrayList;
import java.util.Arrays;
import java.util.Comparator;
import java.util.HashMap;
import java.util.List;
import java.util.Map;

/**
 * What tests of the edges have in common. Their methods are named promiseN_.. by the promise's number and bear the words
 * that they try. No object in them is asked more than 512 times.
 */
class Edges {
    static final int BAD = -1, FULL = -2, NONE = -3, STATE = -4;
    static final int LOW = Integer.MIN_VALUE, HIGH = Integer.MAX_VALUE;
    static final Check c = new Check();

    /** The classes of the edges' tests, for SentencesTest. */
    static final Class<?>[] TESTS = {EdgesGroundTest.class, EdgesChartersTest.class, EdgesDeedsTest.class, EdgesStatesTest.class,
        EdgesPostsTest.class, EdgesBellsTest.class, EdgesHostTest.class, EdgesKeptTest.class};

    /** The same calls on a new object each time. */
    interface Made {
        PeaceRing ring();
    }

    interface Call {
        int on(PeaceRing r);
    }

    private interface View {
        void look(PeaceRing r, List<Integer> seen);
    }

    private static final View[] VIEWS = {Edges::lookAtPersons, Edges::lookAtLaw, Edges::lookAtThings, Edges::lookAtHost,
        Edges::lookAtTape, Edges::lookAtKept};
    private static final Map<Made, int[][]> asMade = new HashMap<>();

    static List<Method> testsOf(Class<?> tests) {
        List<Method> all = new ArrayList<>();
        for (Method m : tests.getDeclaredMethods()) if (m.getName().startsWith("promise")) all.add(m);
        all.sort(Comparator.comparingInt(Edges::promiseOf).thenComparing(Method::getName));
        return all;
    }

    static int promiseOf(Method test) {
        String name = test.getName();
        return Integer.parseInt(name.substring("promise".length(), name.indexOf('_')));
    }

    static void runAll(Class<?> tests) throws Exception {
        for (Method test : testsOf(tests)) {
            c.about(test.getName());
            test.setAccessible(true);
            test.invoke(null);
        }
        c.end();
    }

    static void due(int got, int want) {
        c.due(got, want);
    }

    static void all(int[] got, int... want) {
        c.all(got, want);
    }

    static int[] of(int... all) {
        return all;
    }

    /** Each call, on a ring made anew, is refused so, and all that can be asked is as if it had not been. */
    static void refused(int code, Made made, Call... calls) {
        int[][] before = asMade.computeIfAbsent(made, m -> seen(m, r -> 0));
        for (Call call : calls) {
            c.due(call.on(made.ring()), code);
            int[][] after = seen(made, call);
            for (int v = 0; v < VIEWS.length; v++) c.due(Arrays.equals(before[v], after[v]) ? 0 : v + 1, 0);
        }
    }

    /** All that can be asked behind a call; a new ring for each view, as asking changes some, and no more than 512 calls. */
    private static int[][] seen(Made made, Call call) {
        int[][] all = new int[VIEWS.length][];
        for (int v = 0; v < VIEWS.length; v++) {
            PeaceRing r = made.ring();
            call.on(r);
            List<Integer> seen = new ArrayList<>();
            VIEWS[v].look(r, seen);
            all[v] = seen.stream().mapToInt(Integer::intValue).toArray();
        }
        return all;
    }

    private static void lookAtPersons(PeaceRing r, List<Integer> seen) {
        int persons = r.many(1);
        int bells = r.many(8);
        for (int p = 0; p < persons; p++) {
            for (int what = 0; what < 10; what++) seen.add(r.personOf(p, what));
            for (int b = 0; b < bells; b++) seen.add(r.heard(p, b));
        }
    }

    private static void lookAtLaw(PeaceRing r, List<Integer> seen) {
        int now = r.many(0);
        int versions = r.many(3);
        for (int v = 0; v < versions; v++) {
            for (int what = 0; what < 4; what++) seen.add(r.version(v, what));
            for (int line = 0; line < r.version(v, 1); line++) seen.add(r.version(v, 10 + line));
        }
        for (int what = 0; what < 3; what++) seen.add(r.rule(now, what));
        for (int cell = 0; cell < 100; cell += 3) seen.add(r.degree(cell, now));
        for (int d = 0; d < r.many(4); d++) seen.add(r.line(d, 55, 9999));
        for (int p = 0; p < r.many(1); p++) {
            seen.add(r.cost(p, now));
            seen.add(r.why(p, 55, now, 9999));
        }
    }

    private static void lookAtThings(PeaceRing r, List<Integer> seen) {
        for (int what = 0; what < 14; what++) seen.add(r.many(what));
        for (int t = 0; t < r.many(5); t++) for (int what = 0; what < 6; what++) seen.add(r.taking(t, what));
        for (int s = 0; s < r.many(9); s++) seen.add(r.who(s));
        for (int s = 0; s < r.many(2); s++) seen.add(r.gap(s));
        for (int cell = 0; cell < 100; cell += 11) seen.add(r.sees(cell, 22));
        for (int cell = 1; cell < 100; cell += 11) seen.add(r.sees(cell, 6));
        seen.add(r.watch());
        for (int cell = 0; cell < 100; cell++) seen.add(r.ground(cell, 0));
        for (int port = 0; port < 5; port++) for (int what = 0; what < 3; what++) seen.add(r.port(port, what, 1));
    }

    private static void lookAtHost(PeaceRing r, List<Integer> seen) {
        seen.add(r.judge());
        for (int i = 0; i < r.many(10); i++) for (int what = 0; what < 2; what++) seen.add(r.row(i, what));
        for (int i = 0; i < r.many(12); i++) seen.add(r.trace(i));
        for (int sheet = 0; sheet < 4; sheet++) {
            for (int sort = 0; sort < 5; sort++) for (int i = 0; i < 7; i++) seen.add(r.item(sheet, sort, i));
        }
        for (int shelf = 0; shelf < 4; shelf++) for (int as = 0; as < 15; as++) seen.add(r.taken(shelf, as));
    }

    /** What THE TAPE holds can be told only by reading it. */
    private static void lookAtTape(PeaceRing r, List<Integer> seen) {
        seen.add(r.many(11));
        seen.add(r.feed(';', 1));
        seen.add(r.read(0));
        for (int what = 0; what < 20; what++) seen.add(r.version(r.many(3) - 1, what));
    }

    private static void lookAtKept(PeaceRing r, List<Integer> seen) {
        seen.add(r.again());
        for (int what = 0; what < 14; what++) seen.add(r.many(what));
        for (int p = 0; p < r.many(1); p++) for (int what = 0; what < 10; what++) seen.add(r.personOf(p, what));
        for (int cell = 0; cell < 100; cell += 5) seen.add(r.degree(cell, 0));
    }

    // ---- rings to begin with

    static PeaceRing fresh() {
        return new PeaceRing();
    }

    /** NOW is so. */
    static PeaceRing at(int hour) {
        PeaceRing r = new PeaceRing();
        Check.pass(r, hour);
        return r;
    }

    /** A ring with a TEXT read as a CHARTER at 0. */
    static PeaceRing by(String text) {
        PeaceRing r = new PeaceRing();
        Check.read(r, 0, text);
        return r;
    }

    /**
     * Something of everything, at 30. PERSONS 0, 6, 7 are free, 1 safe, 2 sworn, 3 leaving, 4 a dweller, 5 broken, 8 taken;
     * CELLS 0 and 50 are walls. Kept is what was at 0.
     */
    static PeaceRing settled() {
        PeaceRing r = new PeaceRing();
        r.stone(55, 2);
        r.stone(22, 7);
        for (int wall : of(0, 50)) r.ground(wall, 1);
        r.ground(56, 2);
        r.ground(65, 3);
        for (int p = 0; p < 8; p++) r.person(55, 1 + p % 4);
        r.person(99, 2);
        Check.read(r, 0, "mile 4; oath fail if age above 20; cost 7 if not night;");
        r.deed(0, 0, 1, 0, 55, 0);
        r.deed(6, 4, -1, 0, 99, 0);
        r.deed(4, 3, -1, 0, 55, 0);
        for (int p = 1; p < 6; p++) r.seek(p);
        r.swear(2);
        r.swear(3);
        r.leave(3, 1);
        r.dwell(4);
        r.bell(55, 3);
        r.aim(7, 59);
        r.keep();
        r.hours(30);
        laterThings(r);
        return r;
    }

    private static void laterThings(PeaceRing r) {
        Check.read(r, 1, "mile 5; forty 9;");
        Check.read(r, 2, "measure straight;");
        r.strike(2);
        r.post(33, 2, 22, 4);
        r.post(99, 0, 6, 6);
        r.sight(60, 21, 0);
        r.sight(61, 3, 1);
        r.take(0, 5);
        r.take(0, 8);
        r.aim(1, 90);
        r.aim(6, 50);
        r.port(2, 2, 9);
        r.run(1, 20, 2, 0);
        r.alterRow(0, 1, 1);
        r.sheet(0, 0, 6);
        int[] post = {33, 1, 7, 9, 30, 0};
        for (int i = 0; i < 6; i++) r.put(0, i, post[i]);
        r.sheet(1, 3, 2);
        r.put(1, 1, -5);
        r.shelf(0, 0, 3);
        r.shelf(1, 1, 0);
        r.deal(0, 1, 5);
    }

    /** The same, with bytes on THE TAPE that want one more. */
    static PeaceRing rich() {
        PeaceRing r = settled();
        Check.feed(r, "mile 7");
        return r;
    }

    static final Made FRESH = Edges::fresh, SETTLED = Edges::settled, RICH = Edges::rich;
}
