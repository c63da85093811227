import java.lang.reflect.Method;
import java.util.ArrayList;
import java.util.Arrays;
import java.util.HashMap;
import java.util.List;
import java.util.Map;
import java.util.Random;

/** Long runs of calls, always the same ones, on PeaceRing and on NaiveRing: the answers must be alike. */
public final class AgainstNaiveTest {
    private static final String[] NAMES = {
        "hours", "ground", "between", "person", "move", "personOf", "stone", "within", "degree", "feed", "read", "strike",
        "version", "rule", "deed", "counts", "line", "safe", "why", "cost", "seek", "swear", "leave", "dwell", "port",
        "sails", "take", "taking", "post", "sees", "aim", "run", "row", "alterRow", "dropRow", "judge", "gap", "watch",
        "bell", "heard", "sight", "who", "narrow", "both", "sheet", "put", "item", "comes", "shelf", "taken", "deal",
        "trace", "many", "keep", "again"};
    /** What a run is mostly about: without this the rarer things hardly ever come together. */
    private static final String[][] THEMES = {
        NAMES,
        {"seek", "swear", "leave", "dwell", "sails", "take", "taking", "taking", "port", "cost", "deed", "personOf", "hours",
            "read", "move", "keep", "again"},
        {"sheet", "put", "put", "item", "comes", "shelf", "shelf", "taken", "deal", "deal", "trace", "seek", "swear",
            "leave", "dwell", "take", "person", "move", "keep", "again"},
        {"post", "aim", "aim", "hours", "hours", "run", "row", "alterRow", "dropRow", "judge", "gap", "watch", "bell",
            "heard", "heard", "personOf", "ground", "many"},
        {"deed", "deed", "counts", "line", "safe", "why", "cost", "narrow", "both", "both", "many", "read", "strike",
            "hours", "ground", "within", "degree", "rule", "keep", "again"},
        {"seek", "dwell", "dwell", "sight", "sight", "who", "who", "hours", "hours", "deed", "move", "ground"},
        {"run", "aim", "aim", "hours", "personOf", "between", "within", "degree", "post", "sight", "who", "judge", "dropRow"}};
    private static final int NARROW = THEMES.length - 1;
    private static final int[] ODD = {Integer.MIN_VALUE, Integer.MAX_VALUE, -1, -2, 100, 1 << 20, -100, 10000, 16, 24};

    private final Random random;
    private final PeaceRing ring = new PeaceRing();
    private final NaiveRing naive = new NaiveRing();
    private final Map<String, Method> face;
    private final List<String> told = new ArrayList<>();
    private final int centre;
    private final String[] theme;

    private AgainstNaiveTest(long seed, Map<String, Method> face) {
        random = new Random(seed);
        this.face = face;
        centre = 11 + 10 * random.nextInt(8) + random.nextInt(8);
        theme = THEMES[(int) (seed % THEMES.length)];
    }

    public static void main(String[] args) throws Exception {
        Map<String, Method> face = new HashMap<>();
        for (Method m : PeaceRing.class.getMethods()) face.put(m.getName(), m);
        int runs = args.length > 0 ? Integer.parseInt(args[0]) : 400;
        long first = args.length > 1 ? Long.parseLong(args[1]) : 0;
        for (long seed = first; seed < first + runs; seed++) {
            AgainstNaiveTest test = new AgainstNaiveTest(seed, face);
            if (!test.play()) {
                for (String call : test.told) System.out.println(call);
                System.out.println("seed " + seed + ": the last call is not as due");
                System.exit(1);
            }
        }
        System.out.println(runs + " runs are alike");
    }

    private boolean play() throws Exception {
        int calls = 120 + random.nextInt(392);
        int stage = 0;
        if (theme == THEMES[NARROW] && !layWalls()) return false;
        while (told.size() < calls) {
            // The beginning builds, so that there is something to ask about.
            String name = ++stage < 40 && random.nextInt(3) > 0 ? builder() : asked();
            if (name.equals("again") && random.nextInt(3) > 0) continue;
            if (name.equals("take") && random.nextInt(2) > 0) continue;
            if (name.equals("read") || name.equals("feed") && random.nextInt(2) == 0) {
                if (!feedText()) return false;
                name = "read";
            }
            if (!same(name, arguments(name))) return false;
            if (name.equals("run") && !sameRows()) return false;
        }
        return true;
    }

    /** Walls all over, or lanes that wind, so that WAYS are long and few. */
    private boolean layWalls() throws Exception {
        boolean isWinding = random.nextBoolean();
        for (int cell = 0; cell < 100; cell++) {
            int row = cell / 10;
            int door = row % 4 == 1 ? 9 : 0;
            boolean isWall = isWinding ? row % 2 == 1 && cell % 10 != door && random.nextInt(40) > 0 : random.nextInt(3) == 0;
            if (isWall && !same("ground", cell, 1)) return false;
        }
        return true;
    }

    private String asked() {
        return random.nextInt(4) == 0 ? NAMES[random.nextInt(NAMES.length)] : theme[random.nextInt(theme.length)];
    }

    private String builder() {
        return new String[] {"ground", "person", "stone", "read", "deed", "post", "seek", "hours", "aim", "bell"}[
            random.nextInt(10)];
    }

    private boolean same(String name, long... a) throws Exception {
        Method m = face.get(name);
        Object[] boxed = new Object[a.length];
        for (int i = 0; i < a.length; i++) {
            boxed[i] = m.getParameterTypes()[i] == long.class ? (Object) a[i] : (Object) (int) a[i];
        }
        int got = (Integer) m.invoke(ring, boxed);
        int due = naive.call(name, a);
        told.add(name + Arrays.toString(a) + " answered " + got + (got == due ? "" : ", due is " + due));
        return got == due;
    }

    private boolean sameRows() throws Exception {
        int rows = ring.many(10);
        for (int i = 0; i < rows; i++) if (!same("row", i, 0) || !same("row", i, 1)) return false;
        return same("judge");
    }

    // ---- texts

    private boolean feedText() throws Exception {
        String text = random.nextInt(6) == 0 ? spoilt(text()) : text();
        byte[] bytes = text.getBytes(java.nio.charset.StandardCharsets.ISO_8859_1);
        for (int at = 0; at < bytes.length; ) {
            int n = Math.min(bytes.length - at, 8);
            long eight = 0;
            for (int i = 0; i < n; i++) eight |= (bytes[at + i] & 255L) << 8 * i;
            if (!same("feed", eight, n)) return false;
            at += n;
        }
        return true;
    }

    private String spoilt(String text) {
        StringBuilder s = new StringBuilder(text);
        String[] scraps = {";", "(", ")", " ", "and", "x", "9", "\u00e9", "", "not ", "A", "1000", "mile"};
        int at = random.nextInt(s.length() + 1);
        if (random.nextBoolean() && at < s.length()) s.deleteCharAt(at);
        s.insert(at, scraps[random.nextInt(scraps.length)]);
        if (random.nextInt(4) == 0) s.setLength(random.nextInt(s.length() + 1));
        return s.toString();
    }

    private String text() {
        StringBuilder s = new StringBuilder();
        int lines = random.nextInt(12) == 0 ? 11 : random.nextInt(7);
        for (int i = 0; i < lines; i++) s.append(line()).append(gap()).append(";").append(gap());
        return s.length() > 300 ? s.substring(0, 300) : s.toString();
    }

    private String gap() {
        return "  ".substring(0, random.nextInt(3) / 2);
    }

    private String line() {
        switch (random.nextInt(12)) {
            case 0: return "mile " + random.nextInt(8);
            case 1: return "mile " + random.nextInt(20);
            case 2: return "measure " + (random.nextBoolean() ? "lanes" : "straight");
            case 3: return "forty " + random.nextInt(4);
            case 4: return "cost " + random.nextInt(50);
            case 5: return "cost " + random.nextInt(1001) + " if " + condition(0);
            default:
                String tail = random.nextInt(4) == 0 ? "" : " if " + condition(0);
                return kinds() + (random.nextInt(3) == 0 ? " count" : " fail") + tail;
        }
    }

    private String kinds() {
        String[] all = {"theft", "blow", "killing", "debt", "oath", "treason", "any"};
        String s = all[random.nextInt(7)];
        return random.nextInt(3) == 0 ? s + " and " + kinds() : s;
    }

    private String condition(int open) {
        String s = random.nextInt(5) == 0 ? "not " : "";
        switch (random.nextInt(open < 5 ? 8 : 6)) {
            case 0: s += "inside"; break;
            case 1: s += "night"; break;
            case 2: s += "against"; break;
            case 3: s += "age above " + random.nextInt(40); break;
            case 4: s += "times above " + random.nextInt(4); break;
            case 5: s += "degree above " + random.nextInt(10); break;
            default: s += "(" + condition(open + 1) + ")"; break;
        }
        int more = random.nextInt(6);
        return more == 0 ? s + " and " + condition(open) : more == 1 ? s + " or " + condition(open) : s;
    }

    // ---- arguments

    private int below(int n) {
        return random.nextInt(60) == 0 ? ODD[random.nextInt(ODD.length)] : random.nextInt(Math.max(1, n));
    }

    private int cell() {
        if (random.nextInt(3) == 0) return below(100);
        int[] steps = {0, 0, 1, -1, 10, -10, 11, -11};
        return centre + steps[random.nextInt(8)];
    }

    private int hour() {
        int now = ring.many(0);
        return random.nextInt(3) == 0 ? below(Math.min(10000, now + 60)) : random.nextInt(2) == 0 ? now : below(now + 1);
    }

    private int of(int what) {
        int many = ring.many(what);
        return random.nextInt(25) == 0 ? many : below(many);
    }

    private long[] arguments(String name) {
        switch (name) {
            case "hours": return a(random.nextInt(3) == 0 ? 1 + below(100) : 1 + below(8));
            case "ground": return a(random.nextBoolean() ? below(100) : cell(), random.nextInt(2) == 0 ? 1 : below(4));
            case "between": return a(cell(), below(100), below(2));
            case "person": return a(cell(), 1 + below(4));
            case "move": return a(of(1), cell());
            case "personOf": return a(of(1), below(10));
            case "stone": return a(cell(), 1 + below(9));
            case "within", "degree", "sees": return a(cell(), hour());
            case "feed": return a(random.nextLong(), below(10));
            case "read", "strike": return a(below(3));
            case "version": return a(of(3), random.nextBoolean() ? below(4) : 10 + below(7));
            case "rule": return a(hour(), below(3));
            case "deed": return deed();
            case "counts", "line": return a(of(4), cell(), hour());
            case "safe", "why": return a(of(1), cell(), hour(), hour());
            case "cost": return a(of(1), hour());
            case "seek", "swear", "dwell": return a(of(1));
            case "leave": return a(of(1), below(5));
            case "port": return port();
            case "sails": return a(of(1), below(3));
            case "take": return a(of(1), of(1));
            case "taking": return a(of(5), random.nextBoolean() ? 5 : below(6));
            case "post": return a(cell(), below(random.nextBoolean() ? 2 : 5), below(24), below(24));
            case "aim": return a(of(1), random.nextBoolean() ? cell() : below(100));
            case "run": return a(cell(), below(100), 1 + below(4), below(3));
            default: return moreArguments(name);
        }
    }

    private long[] moreArguments(String name) {
        switch (name) {
            case "row": return a(of(10), below(2));
            case "alterRow": return a(of(10), below(2), random.nextInt(3) == 0 ? below(100) : below(2));
            case "gap": return a(of(2));
            case "bell": return a(cell(), below(random.nextBoolean() ? 4 : 19));
            case "heard": return a(of(1), of(8));
            case "sight": return a(cell(), hour(), below(5));
            case "who": return a(of(9));
            case "narrow": return a(of(3), of(3));
            case "both": return a(below(random.nextInt(3) == 0 ? 17 : 3), below(random.nextInt(3) == 0 ? 17 : 4));
            case "sheet": return a(below(4), random.nextBoolean() ? 0 : below(6) - 1, below(random.nextInt(3) == 0 ? 42 : 8));
            case "put": return a(below(4), below(8), random.nextInt(3) == 0 ? random.nextInt() : below(100));
            case "item": return a(below(4), random.nextBoolean() ? 0 : below(5), below(8));
            case "comes": return a(below(4), below(6));
            case "shelf": return shelf();
            case "taken": return a(below(4), random.nextInt(3) == 0 ? 10 + below(5) : below(7));
            case "deal": return a(below(4), below(4), random.nextInt(3) == 0 ? random.nextInt() : below(100));
            case "trace": return a(of(12));
            case "many": return a(below(14));
            default: return a();
        }
    }

    private long[] deed() {
        int hour = hour();
        int known = random.nextInt(3) == 0 ? hour + below(60) : hour;
        return a(of(1), below(6), random.nextBoolean() ? -1 : of(1), hour, cell(), known);
    }

    private long[] port() {
        int what = below(3);
        return a(below(5), what, what == 2 ? below(random.nextBoolean() ? 30 : 6) : 1 + below(30));
    }

    private long[] shelf() {
        int what = random.nextInt(2) == 0 ? 0 : below(3);
        return a(below(4), what, what == 0 ? of(1) : below(4));
    }

    private static long[] a(long... all) {
        return all;
    }
}
