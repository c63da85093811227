import java.util.Arrays;

/** A ring of peace about a church; ../shared/DOC.md tells, promise by promise, what each call answers. */
public final class PeaceRing {
    public static final int BAD = -1, FULL = -2, NONE = -3, STATE = -4;

    private static final int NOT_SO = -9;
    private static final int NOTHING = -11, OUTSIDE = -12, OTHER_KIND = -13, BELOW_ZERO = -14, PARTED_BY_ZERO = -15;
    private static final int FAULTS = -100;

    private static final int CELLS = 100, SIDE = 10, LAST_HOUR = 9999, MOST_HOURS = 100;
    private static final int DAY = 24, NIGHT_BEGINS = 20, NIGHT_ENDS = 6;
    private static final int WALL = 1, HOUSE = 2, CHURCH = 3;
    private static final int PERSONS = 16, STONES = 6, CHARTERS = 3, VERSIONS = 12, LINES = 10, DEEDS = 24;
    private static final int PORTS = 5, TAKINGS = 16, POSTS = 8, BELLS = 8, SIGHTS = 16, TAPE = 300;
    private static final int MOST_MILE = 18, MOST_NUMBER = 999, MOST_LEGS = 4, MOST_SIGHT = 4, MOST_OPEN = 4;
    private static final int KINDS = 6, DEBT = 3, ANY = 64;

    /** Every table of things that stand somewhere has its CELL in this column. */
    private static final int CELL = 0;
    private static final int LEGS = 1, WHAT_STATE = 2, SINCE = 3, AIM = 4, MET = 5, REACHED = 6, PORT = 7, OWES = 8;
    private static final int HOW_MANY_DEEDS = 9, HEARD = 10;
    private static final int STONE_DEGREE = 1;
    private static final int DOER = 0, DEED_KIND = 1, AGAINST = 2, DEED_HOUR = 3, DEED_CELL = 4, KNOWN = 5;
    private static final int ROAD = 0, EVERY = 1, AT = 2;
    private static final int TAKER = 0, WHOM = 1, TAKING_HOUR = 2, TAKING_CELL = 3, FINE = 4, RIGHT = 5, OATH = 6;
    private static final int SIGHT = 1, CLOCKS = 2;
    private static final int SIGHT_HOUR = 1, SIGHT_LEGS = 2;

    /** STATES of a PERSON; the KINDS of DEALS bear the same numbers. */
    private static final int FREE = 0, SAFE = 1, SWORN = 2, LEAVING = 3, DWELLER = 4, TAKEN = 5, BROKEN = 6;

    private static final int MILE_LINE = 0, LANES_LINE = 1, STRAIGHT_LINE = 2, FORTY_LINE = 3;
    private static final int COST_LINE = 4, COUNT_LINE = 5, FAIL_LINE = 6;

    private final World world = new World();
    private final World kept = new World();
    private final Reader reader = new Reader();
    private final Roads roads = new Roads(world);
    private final Law law = new Law(world, roads);
    private final Posts posts = new Posts(world);
    private final Runners runners = new Runners(world, roads, posts);
    private final Plan plan = new Plan(world, roads, posts);
    private final Host host = new Host(world);
    private boolean isKept;

    public PeaceRing() {
        isKept = false;
    }

    // ---- ground, persons, stones

    public int hours(int n) {
        if (n < 1 || n > MOST_HOURS) return BAD;
        if (world.now + n > LAST_HOUR) return STATE;
        runners.goOn(n);
        return world.now;
    }

    public int ground(int cell, int is) {
        if (noCell(cell) || is < 0 || is > CHURCH) return BAD;
        if (is == WALL && world.isHeld(cell)) return STATE;
        int was = world.ground[cell];
        world.ground[cell] = is;
        if (was == WALL || is == WALL) law.forget();
        return was;
    }

    public int between(int a, int b, int what) {
        if (noCell(a) || noCell(b) || what < 0 || what > 1) return BAD;
        return what == 1 ? World.far(a, b) : roads.way(a, b);
    }

    public int person(int cell, int legs) {
        if (noCell(cell) || legs < 1 || legs > MOST_LEGS) return BAD;
        if (world.isWall(cell)) return STATE;
        if (world.people.isFull()) return FULL;
        return world.addPerson(cell, legs);
    }

    public int move(int person, int cell) {
        if (noPerson(person) || noCell(cell)) return BAD;
        if (world.isWall(cell)) return STATE;
        int was = world.people.get(person, CELL);
        world.people.set(person, CELL, cell);
        world.people.set(person, AIM, NONE);
        return was;
    }

    public int personOf(int person, int what) {
        if (noPerson(person) || what < 0 || what > HOW_MANY_DEEDS) return BAD;
        return what == HOW_MANY_DEEDS ? world.deedsOf(person) : world.people.get(person, what);
    }

    public int stone(int cell, int degree) {
        if (noCell(cell) || degree < 1 || degree > 9) return BAD;
        if (world.isWall(cell)) return STATE;
        if (world.stones.isFull()) return FULL;
        int stone = world.stones.add();
        world.stones.set(stone, CELL, cell);
        world.stones.set(stone, STONE_DEGREE, degree);
        law.forget();
        return stone;
    }

    public int within(int cell, int hour) {
        if (noCell(cell) || noHour(hour)) return BAD;
        law.asAt(hour);
        return law.stonesAbout(cell);
    }

    public int degree(int cell, int hour) {
        if (noCell(cell) || noHour(hour)) return BAD;
        law.asAt(hour);
        return law.degreeOf(cell);
    }

    // ---- charters

    public int feed(long eight, int n) {
        if (n < 1 || n > 8) return BAD;
        if (reader.length + n > TAPE) return FULL;
        reader.append(eight, n);
        return reader.length;
    }

    public int read(int charter) {
        boolean isGood = reader.parse();
        reader.empty();
        if (charter < 0 || charter >= CHARTERS) return BAD;
        if (!isGood) return FAULTS - reader.faultPlace();
        if (world.versionCount >= VERSIONS) return FULL;
        law.forget();
        return world.enact(charter, reader.draft);
    }

    public int strike(int charter) {
        if (charter < 0 || charter >= CHARTERS) return BAD;
        int version = world.openVersion(charter);
        if (version == NONE) return NONE;
        world.versions[version].till = world.now;
        law.forget();
        return version;
    }

    public int version(int v, int what) {
        if (v < 0 || v >= world.versionCount) return BAD;
        Version version = world.versions[v];
        if (what == 0) return version.charter;
        if (what == 1) return version.lines;
        if (what == 2) return version.from;
        if (what == 3) return version.till;
        if (what < 10 || what - 10 >= version.lines) return BAD;
        return 1000 * version.kinds[what - 10] + version.numbers[what - 10];
    }

    public int rule(int hour, int what) {
        if (noHour(hour) || what < 0 || what > 2) return BAD;
        law.asAt(hour);
        if (what == 0) return law.mile;
        if (what == 1) return law.isStraight ? 1 : 0;
        return law.forty;
    }

    // ---- deeds

    public int deed(int person, int kind, int against, int hour, int cell, int known) {
        if (noPerson(person) || against != -1 && noPerson(against)) return BAD;
        if (kind < 0 || kind >= KINDS || noCell(cell)) return BAD;
        if (hour < 0 || hour > world.now || known < hour || known > LAST_HOUR) return BAD;
        if (world.deeds.isFull()) return FULL;
        int deed = world.deeds.add();
        world.deeds.set(deed, DOER, person);
        world.deeds.set(deed, DEED_KIND, kind);
        world.deeds.set(deed, AGAINST, against);
        world.deeds.set(deed, DEED_HOUR, hour);
        world.deeds.set(deed, DEED_CELL, cell);
        world.deeds.set(deed, KNOWN, known);
        law.forget();
        return deed;
    }

    public int counts(int deed, int cell, int hour) {
        int line = line(deed, cell, hour);
        if (line == BAD) return BAD;
        return law.isFail(line) ? 0 : 1;
    }

    public int line(int deed, int cell, int hour) {
        if (!world.deeds.has(deed) || noCell(cell) || noHour(hour)) return BAD;
        if (hour < world.deeds.get(deed, DEED_HOUR)) return BAD;
        law.asAt(hour);
        return law.lineThatTells(deed, law.degreeOf(cell), hour);
    }

    public int safe(int person, int cell, int hour, int k) {
        int why = why(person, cell, hour, k);
        if (why == BAD) return BAD;
        return why == NONE ? 1 : 0;
    }

    public int why(int person, int cell, int hour, int k) {
        if (noPerson(person) || noCell(cell) || noHour(hour) || noHour(k)) return BAD;
        return law.reason(person, cell, hour, k);
    }

    public int cost(int person, int hour) {
        if (noPerson(person) || noHour(hour)) return BAD;
        return law.costOf(person, hour);
    }

    // ---- states

    public int seek(int person) {
        if (noPerson(person)) return BAD;
        if (!world.isIn(person, FREE) || !law.isSafeNow(person)) return STATE;
        world.become(person, SAFE);
        return 1;
    }

    public int swear(int person) {
        if (noPerson(person)) return BAD;
        if (!world.isIn(person, SAFE)) return STATE;
        law.asAt(world.now);
        if (world.now - world.people.get(person, SINCE) > DAY * law.forty) return STATE;
        world.become(person, SWORN);
        return 1;
    }

    public int leave(int person, int port) {
        if (noPerson(person) || !world.ports.has(port)) return BAD;
        if (!world.isIn(person, SWORN)) return STATE;
        int come = world.comeDay(port, world.now);
        int tides = world.tides(port, come);
        if (tides == NONE) return NONE;
        world.become(person, LEAVING);
        world.people.set(person, PORT, port);
        return come + tides;
    }

    public int dwell(int person) {
        if (noPerson(person)) return BAD;
        if (!world.isIn(person, SAFE) || world.isKnownForMore(person)) return STATE;
        world.become(person, DWELLER);
        return 1;
    }

    public int port(int port, int what, int v) {
        if (!world.ports.has(port) || what < ROAD || what > AT) return BAD;
        int least = what == AT ? 0 : 1;
        int most = what == AT ? 29 : 30;
        if (v < least || v > most) return BAD;
        int was = world.ports.get(port, what);
        world.ports.set(port, what, v);
        return was;
    }

    public int sails(int person, int what) {
        if (noPerson(person) || what < 0 || what > 2) return BAD;
        if (!world.isIn(person, LEAVING)) return STATE;
        int port = world.people.get(person, PORT);
        int come = world.comeDay(port, world.people.get(person, SINCE));
        if (what == 0) return come;
        int tides = world.tides(port, come);
        if (tides == NONE) return NONE;
        return what == 1 ? come + tides : tides;
    }

    public int take(int taker, int person) {
        if (noPerson(taker) || noPerson(person) || taker == person) return BAD;
        if (world.isCaught(person) || world.isCaught(taker)) return STATE;
        if (world.takings.isFull()) return FULL;
        boolean hasOath = world.isIn(person, SWORN) || world.isIn(person, LEAVING);
        boolean isLawful = !hasOath && !law.isSafeNow(person);
        int fine = isLawful ? 0 : law.fineFor(person);
        int taking = world.addTaking(taker, person);
        world.takings.set(taking, FINE, fine);
        world.takings.set(taking, RIGHT, isLawful ? 1 : 0);
        world.takings.set(taking, OATH, hasOath ? 1 : 0);
        world.people.set(taker, OWES, world.people.get(taker, OWES) + fine);
        world.become(person, isLawful ? TAKEN : BROKEN);
        world.people.set(person, AIM, NONE);
        return taking;
    }

    public int taking(int taking, int what) {
        if (!world.takings.has(taking) || what < 0 || what > RIGHT) return BAD;
        int told = world.takings.get(taking, what);
        if (what == RIGHT && law.wasLawful(taking)) return told + 2;
        return told;
    }

    // ---- posts, runs

    public int post(int cell, int sight, int from, int to) {
        if (noCell(cell) || noClock(from) || noClock(to) || sight < 0 || sight > MOST_SIGHT) return BAD;
        if (world.isWall(cell)) return STATE;
        if (world.posts.isFull()) return FULL;
        return posts.man(cell, sight, from, to);
    }

    public int sees(int cell, int hour) {
        if (noCell(cell) || noHour(hour)) return BAD;
        return posts.seers(cell, hour % DAY);
    }

    public int aim(int person, int cell) {
        if (noPerson(person) || noCell(cell)) return BAD;
        if (world.isCaught(person) || world.people.get(person, CELL) == cell) return STATE;
        int was = world.people.get(person, AIM);
        world.people.set(person, AIM, cell);
        world.people.set(person, REACHED, 0);
        return was;
    }

    public int run(int from, int to, int legs, int what) {
        if (noCell(from) || noCell(to) || legs < 1 || legs > MOST_LEGS || what < 0 || what > 2) return BAD;
        if (!plan.find(from, to, legs)) return NONE;
        if (what == 0) return plan.stepsSeen();
        if (what == 1) return plan.rows.count;
        return plan.rows.get(0, CELL);
    }

    public int row(int i, int what) {
        if (!plan.rows.has(i) || what < 0 || what > 1) return NOT_SO;
        return plan.rows.get(i, what);
    }

    public int alterRow(int i, int what, int v) {
        if (!plan.rows.has(i) || what < 0 || what > 1) return NOT_SO;
        int was = plan.rows.get(i, what);
        plan.rows.set(i, what, v);
        return was;
    }

    public int dropRow() {
        if (plan.rows.count == 0) return NONE;
        plan.rows.count--;
        return plan.rows.count;
    }

    public int judge() {
        return plan.isTold ? plan.firstUnlike() + 1 : NONE;
    }

    public int gap(int stone) {
        if (!world.stones.has(stone)) return BAD;
        return posts.longestGap(world.stones.get(stone, CELL));
    }

    public int watch() {
        return posts.leastWatch();
    }

    // ---- bells, nights, narrowing

    public int bell(int cell, int loud) {
        if (noCell(cell) || loud < 0 || loud > MOST_MILE) return BAD;
        if (world.bells >= BELLS) return FULL;
        return world.ring(cell, loud);
    }

    public int heard(int person, int bell) {
        if (noPerson(person) || bell < 0 || bell >= world.bells) return BAD;
        return world.people.get(person, HEARD + bell);
    }

    public int sight(int cell, int hour, int legs) {
        if (noCell(cell) || hour < 0 || hour > world.now || legs < 0 || legs > MOST_LEGS) return BAD;
        if (!World.isNight(hour)) return STATE;
        if (world.sights.isFull()) return FULL;
        int sight = world.sights.add();
        world.sights.set(sight, CELL, cell);
        world.sights.set(sight, SIGHT_HOUR, hour);
        world.sights.set(sight, SIGHT_LEGS, legs);
        return sight;
    }

    public int who(int sight) {
        if (!world.sights.has(sight)) return BAD;
        return roads.couldBe(sight);
    }

    public int narrow(int first, int second) {
        if (first < 0 || first >= world.versionCount || second < 0 || second >= world.versionCount) return BAD;
        return law.safeUnderFirstAlone(first, second);
    }

    public int both(int n, int m) {
        if (n < 0 || n > PERSONS || m < 0 || m > PERSONS) return BAD;
        return law.greatestMile(n, m);
    }

    // ---- the host

    public int sheet(int sheet, int sort, int n) {
        if (Host.noPlace(sheet) || sort < Host.MISSING || sort > Host.BOOLEANS) return BAD;
        if (sort != Host.MISSING && n > Host.ITEMS) return BAD;
        if (sort != Host.MISSING && n < 0) return BELOW_ZERO;
        host.lay(sheet, sort, n);
        return 1;
    }

    public int put(int sheet, int i, int v) {
        if (Host.noPlace(sheet)) return BAD;
        int refusal = host.refusal(sheet, host.sorts[sheet], i, 1);
        if (refusal != 0) return refusal;
        host.items[sheet][i] = Host.narrowed(host.sorts[sheet], v);
        return 1;
    }

    public int item(int sheet, int sort, int i) {
        if (Host.noPlace(sheet) || sort < 0 || sort > Host.BOOLEANS) return BAD;
        int refusal = host.refusal(sheet, sort, i, 1);
        return refusal != 0 ? refusal : host.items[sheet][i];
    }

    public int comes(int sheet, int i) {
        if (Host.noPlace(sheet)) return BAD;
        int refusal = host.refusal(sheet, Host.BYTES, i, 4);
        if (refusal != 0) return refusal;
        int[] told = host.items[sheet];
        return post(told[i], told[i + 1], told[i + 2], told[i + 3]);
    }

    public int shelf(int shelf, int what, int n) {
        if (Host.noPlace(shelf) || what < 0 || what > 2) return BAD;
        if (what == 0 && noPerson(n) || what == 1 && Host.noPlace(n)) return BAD;
        host.store(shelf, what, n);
        return 1;
    }

    public int taken(int shelf, int as) {
        boolean isKind = as >= FREE && as <= BROKEN;
        boolean isSort = as >= 10 && as <= 10 + Host.BOOLEANS;
        if (Host.noPlace(shelf) || !isKind && !isSort) return BAD;
        return isKind ? host.personTakenFor(shelf, as) : host.rowTakenFor(shelf, as - 10);
    }

    public int deal(int shelf, int deal, int x) {
        host.traced = 0;
        if (Host.noPlace(shelf) || deal < 0 || deal > 3) return 0;
        return host.dealWith(shelf, deal, x);
    }

    public int trace(int i) {
        if (i < 0 || i >= host.traced) return NONE;
        return host.trace[i];
    }

    public int many(int what) {
        switch (what) {
            case 0: return world.now;
            case 1: return world.people.count;
            case 2: return world.stones.count;
            case 3: return world.versionCount;
            case 4: return world.deeds.count;
            case 5: return world.takings.count;
            case 6: return world.posts.count;
            case 7: return world.runners();
            case 8: return world.bells;
            case 9: return world.sights.count;
            case 10: return plan.rows.count;
            case 11: return reader.length;
            case 12: return host.traced;
            case 13: return Integer.bitCount(law.safeNow());
            default: return BAD;
        }
    }

    // ---- kept

    public int keep() {
        kept.copyFrom(world);
        isKept = true;
        return 1;
    }

    public int again() {
        if (!isKept) return NONE;
        world.copyFrom(kept);
        law.forget();
        return 1;
    }

    private static boolean noCell(int cell) {
        return cell < 0 || cell >= CELLS;
    }

    private static boolean noHour(int hour) {
        return hour < 0 || hour > LAST_HOUR;
    }

    private static boolean noClock(int clock) {
        return clock < 0 || clock >= DAY;
    }

    private boolean noPerson(int person) {
        return !world.people.has(person);
    }

    /** Rows of numbers of one width, up to a limit; no index goes outside, whatever is asked. */
    private static final class Table {
        private final int width;
        private final int[] cells;
        private final int most;
        private int count;

        Table(int most, int width) {
            this.most = most;
            this.width = width;
            cells = new int[most * width];
        }

        boolean has(int i) {
            return i >= 0 && i < count;
        }

        boolean isFull() {
            return count >= most;
        }

        int get(int i, int what) {
            if (i < 0 || i >= count || what < 0 || what >= width) return NONE;
            return cells[i * width + what];
        }

        void set(int i, int what, int v) {
            if (i < 0 || i >= count || what < 0 || what >= width) return;
            cells[i * width + what] = v;
        }

        /** A new row of zeros; callers have asked isFull() first. */
        int add() {
            if (count >= most) return FULL;
            for (int what = 0; what < width; what++) cells[count * width + what] = 0;
            count++;
            return count - 1;
        }

        boolean isAnyAt(int cell) {
            for (int i = 0; i < count; i++) {
                if (cells[i * width + CELL] == cell) return true;
            }
            return false;
        }

        void copyFrom(Table other) {
            if (other.cells.length != cells.length) return;
            count = other.count;
            System.arraycopy(other.cells, 0, cells, 0, count * width);
        }
    }

    /** All that keep() keeps. */
    private static final class World {
        private int now;
        private int bells;
        private int versionCount;
        private final int[] ground = new int[CELLS];
        private final Version[] versions = new Version[VERSIONS];
        private final Table people = new Table(PERSONS, HEARD + BELLS);
        private final Table stones = new Table(STONES, 2);
        private final Table deeds = new Table(DEEDS, 6);
        private final Table ports = new Table(PORTS, 3);
        private final Table takings = new Table(TAKINGS, 7);
        private final Table posts = new Table(POSTS, 3);
        private final Table sights = new Table(SIGHTS, 3);

        World() {
            for (int v = 0; v < VERSIONS; v++) versions[v] = new Version();
            for (int i = 0; i < PORTS; i++) {
                int port = ports.add();
                ports.set(port, ROAD, 5);
                ports.set(port, EVERY, 7);
            }
        }

        void copyFrom(World other) {
            now = other.now;
            bells = other.bells;
            versionCount = other.versionCount;
            System.arraycopy(other.ground, 0, ground, 0, CELLS);
            for (int v = 0; v < versionCount && v < VERSIONS; v++) versions[v].copyFrom(other.versions[v]);
            people.copyFrom(other.people);
            stones.copyFrom(other.stones);
            deeds.copyFrom(other.deeds);
            ports.copyFrom(other.ports);
            takings.copyFrom(other.takings);
            posts.copyFrom(other.posts);
            sights.copyFrom(other.sights);
        }

        static int far(int a, int b) {
            return Math.abs(a / SIDE - b / SIDE) + Math.abs(a % SIDE - b % SIDE);
        }

        static boolean isNight(int hour) {
            int clock = hour % DAY;
            return clock >= NIGHT_BEGINS || clock < NIGHT_ENDS;
        }

        boolean isWall(int cell) {
            return ground[cell] == WALL;
        }

        boolean isHeld(int cell) {
            return people.isAnyAt(cell) || stones.isAnyAt(cell) || posts.isAnyAt(cell);
        }

        int addPerson(int cell, int legs) {
            int person = people.add();
            people.set(person, CELL, cell);
            people.set(person, LEGS, legs);
            people.set(person, AIM, NONE);
            people.set(person, MET, NONE);
            people.set(person, PORT, NONE);
            for (int bell = 0; bell < BELLS; bell++) people.set(person, HEARD + bell, NONE);
            return person;
        }

        int addTaking(int taker, int person) {
            int taking = takings.add();
            takings.set(taking, TAKER, taker);
            takings.set(taking, WHOM, person);
            takings.set(taking, TAKING_HOUR, now);
            takings.set(taking, TAKING_CELL, people.get(person, CELL));
            return taking;
        }

        boolean isIn(int person, int state) {
            return people.get(person, WHAT_STATE) == state;
        }

        boolean isCaught(int person) {
            return isIn(person, TAKEN) || isIn(person, BROKEN);
        }

        void become(int person, int state) {
            people.set(person, WHAT_STATE, state);
            people.set(person, SINCE, now);
        }

        int deedsOf(int person) {
            int many = 0;
            for (int deed = 0; deed < deeds.count; deed++) {
                if (deeds.get(deed, DOER) == person) many++;
            }
            return many;
        }

        boolean isKnownForMore(int person) {
            for (int deed = 0; deed < deeds.count; deed++) {
                boolean isTheirs = deeds.get(deed, DOER) == person && deeds.get(deed, KNOWN) <= now;
                if (isTheirs && deeds.get(deed, DEED_KIND) != DEBT) return true;
            }
            return false;
        }

        int runners() {
            int many = 0;
            for (int person = 0; person < people.count; person++) {
                if (people.get(person, AIM) != NONE) many++;
            }
            return many;
        }

        int comeDay(int port, int hour) {
            return hour / DAY + ports.get(port, ROAD);
        }

        /** How many DAYS one waits at a PORT for a SHIP, or NONE. */
        int tides(int port, int come) {
            int every = ports.get(port, EVERY);
            int at = ports.get(port, AT);
            if (every < 1 || at >= every) return NONE;
            return Math.floorMod(at - come, every);
        }

        /** The VERSION of a CHARTER that has no end yet, or NONE. */
        int openVersion(int charter) {
            for (int v = 0; v < versionCount && v < VERSIONS; v++) {
                if (versions[v].charter == charter && versions[v].till == NONE) return v;
            }
            return NONE;
        }

        int enact(int charter, Version draft) {
            if (versionCount >= VERSIONS) return FULL;
            int old = openVersion(charter);
            if (old != NONE) versions[old].till = now;
            Version version = versions[versionCount];
            version.copyFrom(draft);
            version.charter = charter;
            version.from = now;
            version.till = NONE;
            versionCount++;
            return versionCount - 1;
        }

        int ring(int cell, int loud) {
            int bell = bells;
            bells++;
            for (int person = 0; person < people.count; person++) {
                if (far(people.get(person, CELL), cell) <= loud) people.set(person, HEARD + bell, now);
            }
            return bell;
        }
    }

    /** LINES of a CHARTER as it was read once; a COND is a row of codes, each behind what it is about. */
    private static final class Version {
        /** No TEXT that THE TAPE can hold has more: on the whole, a code takes four of its bytes at least. */
        private static final int CODES = 100;
        /** A code below MARK is a FACT (the third is degree), from MARK on a mark of the DEED, then NOT, AND, OR. */
        private static final int AGE = 0, TIMES = 1, MARK = 3;
        private static final int NOT = 6, AND = 7, OR = 8, STEP = 1000;

        private int charter;
        private int from;
        private int till;
        private int lines;
        private int codeCount;
        private final int[] kinds = new int[LINES];
        private final int[] numbers = new int[LINES];
        private final int[] begins = new int[LINES];
        private final int[] ends = new int[LINES];
        private final int[] codes = new int[CODES];

        void clear() {
            lines = 0;
            codeCount = 0;
        }

        void copyFrom(Version other) {
            charter = other.charter;
            from = other.from;
            till = other.till;
            lines = other.lines;
            codeCount = other.codeCount;
            System.arraycopy(other.kinds, 0, kinds, 0, LINES);
            System.arraycopy(other.numbers, 0, numbers, 0, LINES);
            System.arraycopy(other.begins, 0, begins, 0, LINES);
            System.arraycopy(other.ends, 0, ends, 0, LINES);
            System.arraycopy(other.codes, 0, codes, 0, CODES);
        }

        void addLine(int kind, int number) {
            if (lines >= LINES) return;
            kinds[lines] = kind;
            numbers[lines] = number;
            begins[lines] = codeCount;
            ends[lines] = codeCount;
            lines++;
        }

        void addCode(int what, int number) {
            if (codeCount >= CODES || lines < 1) return;
            codes[codeCount] = what * STEP + number;
            codeCount++;
            ends[lines - 1] = codeCount;
        }

        boolean isInForce(int hour) {
            return from <= hour && (till == NONE || hour < till);
        }

        boolean hasCondition(int line) {
            return ends[line] > begins[line];
        }

        boolean names(int line, int kind) {
            return (numbers[line] & (1 << kind | ANY)) != 0;
        }

        /** The values that wait are bits of one int: some dozen wait at most, as no more than 4 "(" are open. */
        boolean holds(int line, int age, int times, int degree, int marks) {
            int values = ends[line] > begins[line] ? 0 : 1;
            for (int i = begins[line]; i < ends[line] && i < CODES; i++) {
                int what = codes[i] / STEP;
                int number = codes[i] % STEP;
                int top = values & 1;
                if (what == NOT) {
                    values ^= 1;
                } else if (what == AND) {
                    values = values >> 1 & (top == 1 ? -1 : -2);
                } else if (what == OR) {
                    values = values >> 1 | top;
                } else if (what >= MARK) {
                    values = values << 1 | marks >> what - MARK & 1;
                } else {
                    int fact = what == AGE ? age : what == TIMES ? times : degree;
                    values = values << 1 | (fact > number ? 1 : 0);
                }
            }
            return (values & 1) == 1;
        }
    }

    /** What can stand in a TEXT: its words, with the bit of a KIND and the code of a FACT. */
    private enum Word {
        END("", 0, -1), WRONG("", 0, -1), NUMBER("", 0, -1),
        MILE("mile", 0, -1), MEASURE("measure", 0, -1), LANES("lanes", 0, -1), STRAIGHT("straight", 0, -1),
        FORTY("forty", 0, -1), COST("cost", 0, -1), IF("if", 0, -1), COUNT("count", 0, -1), FAIL("fail", 0, -1),
        AND("and", 0, -1), OR("or", 0, -1), NOT("not", 0, -1), ABOVE("above", 0, -1),
        THEFT("theft", 1, -1), BLOW("blow", 2, -1), KILLING("killing", 4, -1), DEBT("debt", 8, -1),
        OATH("oath", 16, -1), TREASON("treason", 32, -1), ANY("any", 64, -1),
        AGE("age", 0, 0), TIMES("times", 0, 1), DEGREE("degree", 0, 2),
        INSIDE("inside", 0, 3), NIGHT("night", 0, 4), AGAINST("against", 0, 5),
        SEMICOLON(";", 0, -1), OPEN("(", 0, -1), CLOSE(")", 0, -1);

        private final String text;
        private final int bit;
        private final int code;

        Word(String text, int bit, int code) {
            this.text = text;
            this.bit = bit;
            this.code = code;
        }
    }

    /** THE TAPE, and the reading of a TEXT from it; the word at which reading stops is the FAULT. */
    private static final class Reader {
        private final byte[] tape = new byte[TAPE];
        private int length;
        private final Word[] allWords = Word.values();
        private final Word[] words = new Word[TAPE + 1];
        private final int[] numbers = new int[TAPE + 1];
        private final int[] places = new int[TAPE + 1];
        private int wordCount;
        private int at;
        private Word word = Word.END;
        private final Version draft = new Version();

        void append(long eight, int n) {
            for (int i = 0; i < n && length < TAPE; i++) {
                tape[length] = (byte) (eight >> 8 * i);
                length++;
            }
        }

        void empty() {
            length = 0;
        }

        int faultPlace() {
            return places[at];
        }

        boolean parse() {
            splitWords();
            draft.clear();
            at = 0;
            word = words[0];
            for (int lines = 0; word != Word.END; lines++) {
                if (lines >= LINES || !parseLine() || !pass(Word.SEMICOLON)) return false;
            }
            return true;
        }

        private void splitWords() {
            wordCount = 0;
            int place = 0;
            while (place < length) {
                int end = place + 1;
                if (isLetter(place)) {
                    while (end < length && isLetter(end)) end++;
                    addWord(wordFrom(place, end), 0, place);
                } else if (isDigit(place)) {
                    while (end < length && isDigit(end)) end++;
                    addWord(Word.NUMBER, numberFrom(place, end), place);
                } else if (tape[place] != ' ') {
                    addWord(wordFrom(place, end), 0, place);
                }
                place = end;
            }
            addWord(Word.END, 0, length);
        }

        private void addWord(Word is, int number, int place) {
            if (wordCount > TAPE) return;
            words[wordCount] = is;
            numbers[wordCount] = number;
            places[wordCount] = place;
            wordCount++;
        }

        private boolean isLetter(int place) {
            return tape[place] >= 'a' && tape[place] <= 'z';
        }

        private boolean isDigit(int place) {
            return tape[place] >= '0' && tape[place] <= '9';
        }

        private Word wordFrom(int place, int end) {
            for (int i = 0; i < allWords.length; i++) {
                if (isSpelled(allWords[i].text, place, end)) return allWords[i];
            }
            return Word.WRONG;
        }

        private boolean isSpelled(String text, int place, int end) {
            if (text.length() != end - place) return false;
            for (int i = 0; i < text.length(); i++) {
                if (tape[place + i] != text.charAt(i)) return false;
            }
            return true;
        }

        /** A NUMBER of more than 3 digits is none that can stand anywhere. */
        private int numberFrom(int place, int end) {
            if (end - place > 3) return MOST_NUMBER + 1;
            int number = 0;
            for (int i = place; i < end; i++) number = number * 10 + tape[i] - '0';
            return number;
        }

        private void advance() {
            if (at + 1 >= wordCount || at >= TAPE) return;
            at++;
            word = words[at];
        }

        private boolean pass(Word is) {
            if (word != is) return false;
            advance();
            return true;
        }

        /** The NUMBER that stands next, or NONE. */
        private int passNumber(int most) {
            if (word != Word.NUMBER || numbers[at] > most) return NONE;
            int number = numbers[at];
            advance();
            return number;
        }

        private boolean parseLine() {
            if (pass(Word.MILE)) return parseNumberLine(MILE_LINE, MOST_MILE);
            if (pass(Word.FORTY)) return parseNumberLine(FORTY_LINE, MOST_NUMBER);
            if (pass(Word.COST)) return parseNumberLine(COST_LINE, MOST_NUMBER) && parseIf();
            if (pass(Word.MEASURE)) return parseMeasure();
            return parseKinds() && parseIf();
        }

        private boolean parseNumberLine(int kind, int most) {
            int number = passNumber(most);
            if (number == NONE) return false;
            draft.addLine(kind, number);
            return true;
        }

        private boolean parseMeasure() {
            boolean isLanes = word == Word.LANES;
            if (!isLanes && word != Word.STRAIGHT) return false;
            advance();
            draft.addLine(isLanes ? LANES_LINE : STRAIGHT_LINE, 0);
            return true;
        }

        private boolean parseKinds() {
            int bits = 0;
            for (int i = 0; i <= TAPE; i++) {
                if (word.bit == 0) return false;
                bits |= word.bit;
                advance();
                if (!pass(Word.AND)) break;
            }
            boolean isCount = word == Word.COUNT;
            if (!isCount && word != Word.FAIL) return false;
            advance();
            draft.addLine(isCount ? COUNT_LINE : FAIL_LINE, bits);
            return true;
        }

        private boolean parseIf() {
            return !pass(Word.IF) || parseCondition(0);
        }

        private boolean parseCondition(int open) {
            if (!parseAll(open)) return false;
            for (int i = 0; i <= TAPE && pass(Word.OR); i++) {
                if (!parseAll(open)) return false;
                draft.addCode(Version.OR, 0);
            }
            return true;
        }

        private boolean parseAll(int open) {
            if (!parseOne(open)) return false;
            for (int i = 0; i <= TAPE && pass(Word.AND); i++) {
                if (!parseOne(open)) return false;
                draft.addCode(Version.AND, 0);
            }
            return true;
        }

        private boolean parseOne(int open) {
            boolean isDenied = false;
            for (int i = 0; i <= TAPE && pass(Word.NOT); i++) isDenied = !isDenied;
            boolean isGood = word == Word.OPEN ? parseOpen(open) : parseFact();
            if (isGood && isDenied) draft.addCode(Version.NOT, 0);
            return isGood;
        }

        private boolean parseOpen(int open) {
            if (open >= MOST_OPEN) return false;
            advance();
            return parseCondition(open + 1) && pass(Word.CLOSE);
        }

        private boolean parseFact() {
            int code = word.code;
            if (code < 0) return false;
            advance();
            if (code >= Version.MARK) {
                draft.addCode(code, 0);
                return true;
            }
            if (!pass(Word.ABOVE)) return false;
            int number = passNumber(MOST_NUMBER);
            if (number == NONE) return false;
            draft.addCode(code, number);
            return true;
        }
    }

    /** WAYS over THE GROUND. */
    private static final class Roads {
        private final World world;
        /** The four CELLS about each, the least first; NONE beyond the rim. */
        private final int[] beside = new int[4 * CELLS];
        private final int[] queue = new int[CELLS];
        private final int[] ways = new int[CELLS];
        private final int[][] stoneWays = new int[STONES][CELLS];

        Roads(World world) {
            this.world = world;
            for (int cell = 0; cell < CELLS; cell++) {
                beside[4 * cell] = cell >= SIDE ? cell - SIDE : NONE;
                beside[4 * cell + 1] = cell % SIDE > 0 ? cell - 1 : NONE;
                beside[4 * cell + 2] = cell % SIDE < SIDE - 1 ? cell + 1 : NONE;
                beside[4 * cell + 3] = cell + SIDE < CELLS ? cell + SIDE : NONE;
            }
        }

        /** WAYS from a CELL to all CELLS (and back, as none of them leads over a wall). */
        void spread(int from, int[] out) {
            Arrays.fill(out, NONE);
            if (noCell(from) || world.isWall(from)) return;
            out[from] = 0;
            queue[0] = from;
            int tail = 1;
            for (int head = 0; head < tail && head < CELLS; head++) {
                int cell = queue[head];
                for (int side = 4 * cell; side < 4 * cell + 4; side++) {
                    int next = beside[side];
                    if (next != NONE && out[next] == NONE && world.ground[next] != WALL && tail < CELLS) {
                        out[next] = out[cell] + 1;
                        queue[tail] = next;
                        tail++;
                    }
                }
            }
        }

        int way(int a, int b) {
            spread(a, ways);
            return ways[b];
        }

        void mapStones() {
            for (int stone = 0; stone < world.stones.count && stone < STONES; stone++) {
                spread(world.stones.get(stone, CELL), stoneWays[stone]);
            }
        }

        /** WHO of a SIGHT, as bits. */
        int couldBe(int sight) {
            spread(world.sights.get(sight, CELL), ways);
            int legsSeen = world.sights.get(sight, SIGHT_LEGS);
            int hours = (world.sights.get(sight, SIGHT_HOUR) + DAY - NIGHT_BEGINS) % DAY;
            int bits = 0;
            for (int person = 0; person < world.people.count; person++) {
                int legs = world.people.get(person, LEGS);
                int way = ways[world.people.get(person, CELL)];
                boolean isLike = world.isIn(person, DWELLER) && (legsSeen == 0 || legsSeen == legs);
                if (isLike && way != NONE && way <= legs * hours) bits |= 1 << person;
            }
            return bits;
        }
    }

    /** LINES in force at an HOUR, and what they make of CELLS and DEEDS. */
    private static final class Law {
        private final World world;
        private final Roads roads;
        private boolean isStale = true;
        /** The VERSION that is taken as if it alone was in force, always; or NONE. */
        private int alone = NONE;
        /** LINES in force, each as 100 times its VERSION and its number. */
        private final int[] lines = new int[CHARTERS * LINES];
        private int count;
        private int mile;
        private boolean isStraight;
        private int forty;
        /** Of each DEED what doesn't hang on where one is and when: times, and inside, night, against as bits. */
        private final int[] times = new int[DEEDS];
        private final int[] marks = new int[DEEDS];

        Law(World world, Roads roads) {
            this.world = world;
            this.roads = roads;
        }

        /** Due whenever walls, STONES, VERSIONS or DEEDS change. */
        void forget() {
            isStale = true;
        }

        void asAt(int hour) {
            if (isStale) {
                isStale = false;
                roads.mapStones();
                learnDeeds();
            }
            gather(hour);
        }

        private void gather(int hour) {
            count = 0;
            mile = 3;
            isStraight = false;
            forty = 40;
            if (alone != NONE) {
                addLines(alone);
                return;
            }
            for (int charter = 0; charter < CHARTERS; charter++) {
                for (int v = 0; v < world.versionCount && v < VERSIONS; v++) {
                    Version version = world.versions[v];
                    if (version.charter == charter && version.isInForce(hour)) addLines(v);
                }
            }
        }

        private void addLines(int v) {
            if (v < 0 || v >= VERSIONS) return;
            Version version = world.versions[v];
            for (int line = 0; line < version.lines && line < LINES && count < lines.length; line++) {
                lines[count] = 100 * v + line;
                count++;
                int kind = version.kinds[line];
                if (kind == MILE_LINE) mile = version.numbers[line];
                if (kind == FORTY_LINE) forty = version.numbers[line];
                if (kind == LANES_LINE) isStraight = false;
                if (kind == STRAIGHT_LINE) isStraight = true;
            }
        }

        /** STONES within which a CELL is, as bits. */
        int stonesAbout(int cell) {
            int bits = 0;
            for (int stone = 0; stone < world.stones.count && stone < STONES; stone++) {
                int stands = world.stones.get(stone, CELL);
                int off = isStraight ? World.far(stands, cell) : roads.stoneWays[stone][cell];
                if (off != NONE && off <= mile) bits |= 1 << stone;
            }
            return bits;
        }

        int degreeOf(int cell) {
            int about = stonesAbout(cell);
            if (about == 0) return 0;
            int greatest = 0;
            for (int stone = 0; stone < STONES; stone++) {
                if ((about >> stone & 1) == 1) greatest = Math.max(greatest, world.stones.get(stone, STONE_DEGREE));
            }
            int is = world.ground[cell];
            return greatest + (is == HOUSE ? 1 : is == CHURCH ? 3 : 0);
        }

        private void learnDeeds() {
            for (int deed = 0; deed < world.deeds.count && deed < DEEDS; deed++) {
                int hour = world.deeds.get(deed, DEED_HOUR);
                gather(hour);
                int inside = stonesAbout(world.deeds.get(deed, DEED_CELL)) != 0 ? 1 : 0;
                int night = World.isNight(hour) ? 2 : 0;
                int against = world.deeds.get(deed, AGAINST) != -1 ? 4 : 0;
                marks[deed] = inside | night | against;
                times[deed] = timesOf(deed);
            }
        }

        private int timesOf(int deed) {
            int many = 0;
            for (int other = 0; other < world.deeds.count; other++) {
                boolean isLike = world.deeds.get(other, DOER) == world.deeds.get(deed, DOER)
                    && world.deeds.get(other, DEED_KIND) == world.deeds.get(deed, DEED_KIND);
                if (isLike && world.deeds.get(other, DEED_HOUR) <= world.deeds.get(deed, DEED_HOUR)) many++;
            }
            return many;
        }

        private boolean holdsOn(int code, int deed, int degree, int hour) {
            if (deed < 0 || deed >= DEEDS) return false;
            int age = hour - world.deeds.get(deed, DEED_HOUR);
            return world.versions[code / 100].holds(code % 100, age, times[deed], degree, marks[deed]);
        }

        /** The LINE in force by which a DEED COUNTS or not, where the DEGREE is as told; or NONE. */
        int lineThatTells(int deed, int degree, int hour) {
            int kind = world.deeds.get(deed, DEED_KIND);
            for (int i = count - 1; i >= 0; i--) {
                Version version = world.versions[lines[i] / 100];
                int line = lines[i] % 100;
                boolean isAbout = version.kinds[line] >= COUNT_LINE && version.names(line, kind);
                if (isAbout && holdsOn(lines[i], deed, degree, hour)) return lines[i];
            }
            return NONE;
        }

        boolean isFail(int code) {
            return code >= 0 && world.versions[code / 100].kinds[code % 100] == FAIL_LINE;
        }

        /** The first DEED that is KNOWN at k and doesn't COUNT where the DEGREE is as told; or NONE. */
        private int firstFailing(int person, int degree, int hour, int k) {
            for (int deed = 0; deed < world.deeds.count; deed++) {
                boolean isTheirs = world.deeds.get(deed, DOER) == person && world.deeds.get(deed, KNOWN) <= k;
                boolean isDone = isTheirs && world.deeds.get(deed, DEED_HOUR) <= hour;
                if (isDone && isFail(lineThatTells(deed, degree, hour))) return deed;
            }
            return NONE;
        }

        /** WHY a PERSON isn't SAFE, or NONE. */
        int reason(int person, int cell, int hour, int k) {
            asAt(hour);
            int degree = degreeOf(cell);
            int failing = firstFailing(person, degree, hour, k);
            if (failing != NONE) return failing;
            return degree > 0 ? NONE : NOT_SO;
        }

        boolean isSafeNow(int person) {
            return reason(person, world.people.get(person, CELL), world.now, world.now) == NONE;
        }

        /** PERSONS who are SAFE NOW, as bits. */
        int safeNow() {
            asAt(world.now);
            return safeAsGathered();
        }

        /** PERSONS who are SAFE NOW by what is gathered, as bits. */
        private int safeAsGathered() {
            int bits = 0;
            for (int person = 0; person < world.people.count; person++) {
                int degree = degreeOf(world.people.get(person, CELL));
                boolean isSafe = degree > 0 && firstFailing(person, degree, world.now, world.now) == NONE;
                if (isSafe) bits |= 1 << person;
            }
            return bits;
        }

        int costOf(int person, int hour) {
            asAt(hour);
            int degree = degreeOf(world.people.get(person, CELL));
            int deed = latestDeed(person, hour);
            for (int i = count - 1; i >= 0; i--) {
                Version version = world.versions[lines[i] / 100];
                int line = lines[i] % 100;
                boolean isCost = version.kinds[line] == COST_LINE;
                boolean isTold = isCost && (!version.hasCondition(line) || holdsOn(lines[i], deed, degree, hour));
                if (isTold) return version.numbers[line];
            }
            return 10;
        }

        private int latestDeed(int person, int hour) {
            for (int deed = world.deeds.count - 1; deed >= 0; deed--) {
                boolean isTheirs = world.deeds.get(deed, DOER) == person;
                if (isTheirs && world.deeds.get(deed, DEED_HOUR) <= hour) return deed;
            }
            return NONE;
        }

        /** What one OWES who takes a PERSON unlawfully NOW. */
        int fineFor(int person) {
            int cost = costOf(person, world.now);
            return cost * Math.max(1, degreeOf(world.people.get(person, CELL)));
        }

        /** Whether a TAKING was lawful as it was. */
        boolean wasLawful(int taking) {
            if (world.takings.get(taking, OATH) == 1) return false;
            int person = world.takings.get(taking, WHOM);
            int cell = world.takings.get(taking, TAKING_CELL);
            return reason(person, cell, world.takings.get(taking, TAKING_HOUR), LAST_HOUR) != NONE;
        }

        int safeUnderFirstAlone(int first, int second) {
            asAt(world.now);
            int bits = safeUnder(first) & ~safeUnder(second);
            alone = NONE;
            learnDeeds();
            return bits;
        }

        private int safeUnder(int version) {
            alone = version;
            learnDeeds();
            gather(world.now);
            return safeAsGathered();
        }

        int greatestMile(int n, int m) {
            int safe = safeNow();
            for (int tried = MOST_MILE; tried >= 0; tried--) {
                mile = tried;
                int safeThen = safeAsGathered();
                boolean isBoth = Integer.bitCount(safe & ~safeThen) <= n && unsafeDoers(safeThen) >= m;
                if (isBoth) return tried;
            }
            return NONE;
        }

        private int unsafeDoers(int safe) {
            int many = 0;
            for (int person = 0; person < world.people.count; person++) {
                boolean isUnsafe = (safe >> person & 1) == 0 && !world.isCaught(person);
                if (isUnsafe && world.deedsOf(person) > 0) many++;
            }
            return many;
        }
    }

    /** What POSTS see. */
    private static final class Posts {
        private final World world;
        /** Sets of POSTS of which a WATCH needs one each. */
        private final int[] needs = new int[1 << POSTS];

        Posts(World world) {
            this.world = world;
        }

        int man(int cell, int sight, int from, int to) {
            int clocks = 0;
            for (int clock = 0; clock < DAY; clock++) {
                boolean isManned = from <= to ? clock >= from && clock <= to : clock >= from || clock <= to;
                if (isManned) clocks |= 1 << clock;
            }
            int post = world.posts.add();
            world.posts.set(post, CELL, cell);
            world.posts.set(post, SIGHT, sight);
            world.posts.set(post, CLOCKS, clocks);
            return post;
        }

        private boolean reaches(int post, int cell) {
            return World.far(world.posts.get(post, CELL), cell) <= world.posts.get(post, SIGHT);
        }

        /** POSTS that see a CELL at a CLOCK, as bits. */
        int seers(int cell, int clock) {
            int bits = 0;
            for (int post = 0; post < world.posts.count; post++) {
                boolean isManned = (world.posts.get(post, CLOCKS) >> clock & 1) == 1;
                if (isManned && reaches(post, cell)) bits |= 1 << post;
            }
            return bits;
        }

        /** CLOCKS at which a POST sees a CELL, as bits. */
        int clocksSeen(int cell) {
            int clocks = 0;
            for (int post = 0; post < world.posts.count; post++) {
                if (reaches(post, cell)) clocks |= world.posts.get(post, CLOCKS);
            }
            return clocks;
        }

        int longestGap(int cell) {
            int clocks = clocksSeen(cell);
            if (clocks == 0) return DAY;
            int longest = 0;
            int row = 0;
            for (int i = 0; i < 2 * DAY; i++) {
                row = (clocks >> i % DAY & 1) == 1 ? 0 : row + 1;
                longest = Math.max(longest, row);
            }
            return longest;
        }

        int leastWatch() {
            int needed = gatherNeeds();
            int least = (1 << world.posts.count) - 1;
            int fewest = world.posts.count;
            for (int set = 0; set < 1 << world.posts.count; set++) {
                if (Integer.bitCount(set) < fewest && meetsNeeds(set, needed)) {
                    least = set;
                    fewest = Integer.bitCount(set);
                }
            }
            return least;
        }

        private int gatherNeeds() {
            int needed = 0;
            for (int stone = 0; stone < world.stones.count; stone++) {
                int cell = world.stones.get(stone, CELL);
                for (int clock = 0; clock < DAY; clock++) {
                    int set = seers(cell, clock);
                    if (set != 0 && !isNeeded(set, needed) && needed < needs.length) {
                        needs[needed] = set;
                        needed++;
                    }
                }
            }
            return needed;
        }

        private boolean isNeeded(int set, int needed) {
            for (int i = 0; i < needed; i++) {
                if (needs[i] == set) return true;
            }
            return false;
        }

        private boolean meetsNeeds(int set, int needed) {
            for (int i = 0; i < needed; i++) {
                if ((needs[i] & set) == 0) return false;
            }
            return true;
        }
    }

    /** What happens as NOW goes on: RUNNERS run, and BELLS are told. */
    private static final class Runners {
        private final World world;
        private final Roads roads;
        private final Posts posts;
        private final int[][] aimWays = new int[PERSONS][CELLS];

        Runners(World world, Roads roads, Posts posts) {
            this.world = world;
            this.roads = roads;
            this.posts = posts;
        }

        void goOn(int hours) {
            mapAims();
            int last = world.now + hours;
            for (int i = 0; i < hours; i++) {
                world.now++;
                boolean isAnyGone = false;
                for (int person = 0; person < world.people.count && person < PERSONS; person++) {
                    if (go(person)) isAnyGone = true;
                }
                tellBells();
                // Who takes no STEP now takes none later either, and who is together has told all: the rest is still.
                if (!isAnyGone) break;
            }
            world.now = last;
        }

        private void mapAims() {
            for (int person = 0; person < world.people.count && person < PERSONS; person++) {
                int aim = world.people.get(person, AIM);
                if (aim != NONE) roads.spread(aim, aimWays[person]);
            }
        }

        /** A RUNNER goes their STEPS of an HOUR: whether there was one. */
        private boolean go(int person) {
            boolean isGone = false;
            int legs = world.people.get(person, LEGS);
            for (int step = 0; step < legs && world.people.get(person, AIM) != NONE; step++) {
                int next = nextCell(person);
                if (next == NONE) return isGone;
                isGone = true;
                world.people.set(person, CELL, next);
                arrive(person, next);
            }
            return isGone;
        }

        private int nextCell(int person) {
            int[] ways = aimWays[person];
            int cell = world.people.get(person, CELL);
            if (noCell(cell) || ways[cell] < 1) return NONE;
            for (int side = 4 * cell; side < 4 * cell + 4; side++) {
                int next = roads.beside[side];
                if (next != NONE && ways[next] == ways[cell] - 1) return next;
            }
            return NONE;
        }

        private void arrive(int person, int cell) {
            int seers = posts.seers(cell, world.now % DAY);
            if (seers != 0) {
                world.people.set(person, MET, lowest(seers));
                world.people.set(person, AIM, NONE);
            } else if (cell == world.people.get(person, AIM)) {
                world.people.set(person, REACHED, 1);
                world.people.set(person, AIM, NONE);
            }
        }

        private static int lowest(int bits) {
            for (int i = 0; i < POSTS; i++) {
                if ((bits >> i & 1) == 1) return i;
            }
            return NONE;
        }

        private void tellBells() {
            if (world.bells == 0) return;
            for (int teller = 0; teller < world.people.count; teller++) {
                int cell = world.people.get(teller, CELL);
                for (int person = 0; person < world.people.count; person++) {
                    if (world.people.get(person, CELL) == cell) tellTo(person, teller);
                }
            }
        }

        private void tellTo(int person, int teller) {
            for (int what = HEARD; what < HEARD + world.bells; what++) {
                int heard = world.people.get(teller, what);
                boolean isNews = heard != NONE && heard < world.now && world.people.get(person, what) == NONE;
                if (isNews) world.people.set(person, what, world.now);
            }
        }
    }

    /** THE RUN and its ROWS. */
    private static final class Plan {
        private static final int STEPS = 60, SEEN_STEP = 64, HOPELESS = 1 << 20, SEEN = 1;

        private final World world;
        private final Roads roads;
        private final Posts posts;
        /** By how many STEPS are gone and the CELL: the least price of what is ahead, each STEP 1, if SEEN 64 more. */
        private final int[] prices = new int[(STEPS + 1) * CELLS];
        private final int[] ways = new int[CELLS];
        private final int[] clocks = new int[CELLS];
        private final Table rows = new Table(STEPS, 2);
        private final Table truth = new Table(STEPS, 2);
        private boolean isTold;

        Plan(World world, Roads roads, Posts posts) {
            this.world = world;
            this.roads = roads;
            this.posts = posts;
        }

        boolean find(int from, int to, int legs) {
            if (legs < 1) return false;
            roads.spread(from, ways);
            if (ways[to] == NONE || ways[to] > STEPS) return false;
            for (int cell = 0; cell < CELLS; cell++) clocks[cell] = posts.clocksSeen(cell);
            for (int gone = STEPS; gone >= 0; gone--) priceAll(gone, to, clockAfter(gone, legs));
            tellRows(from, to, legs);
            return true;
        }

        /** The CLOCK of the STEP that comes when so many are gone. */
        private int clockAfter(int gone, int legs) {
            return (world.now + gone / legs + 1) % DAY;
        }

        private void priceAll(int gone, int to, int clock) {
            for (int cell = 0; cell < CELLS; cell++) {
                boolean isReached = ways[cell] != NONE && ways[cell] <= gone && (gone - ways[cell]) % 2 == 0;
                int price = HOPELESS;
                if (isReached && cell == to) price = 0;
                else if (isReached && gone < STEPS) price = leastPrice(gone, cell, clock);
                prices[gone * CELLS + cell] = price;
            }
        }

        private int leastPrice(int gone, int cell, int clock) {
            int least = HOPELESS;
            for (int side = 4 * cell; side < 4 * cell + 4; side++) {
                int next = roads.beside[side];
                int price = next == NONE ? HOPELESS : priceBy(gone, next, clock);
                if (price < least) least = price;
            }
            return least;
        }

        private int priceBy(int gone, int next, int clock) {
            int seen = clocks[next] >> clock & 1;
            return 1 + SEEN_STEP * seen + prices[(gone + 1) * CELLS + next];
        }

        private void tellRows(int from, int to, int legs) {
            truth.count = 0;
            int cell = from;
            for (int gone = 0; gone < STEPS && cell != to; gone++) {
                int clock = clockAfter(gone, legs);
                cell = nextCell(gone, cell, clock);
                int row = truth.add();
                truth.set(row, CELL, cell);
                truth.set(row, SEEN, clocks[cell] >> clock & 1);
            }
            rows.copyFrom(truth);
            isTold = true;
        }

        private int nextCell(int gone, int cell, int clock) {
            int price = prices[gone * CELLS + cell];
            for (int side = 4 * cell; side < 4 * cell + 4; side++) {
                int next = roads.beside[side];
                if (next != NONE && priceBy(gone, next, clock) == price) return next;
            }
            return cell;
        }

        int stepsSeen() {
            int many = 0;
            for (int i = 0; i < truth.count; i++) many += truth.get(i, SEEN);
            return many;
        }

        /** What THE READER says. */
        int firstUnlike() {
            for (int i = 0; i < rows.count; i++) {
                boolean isSo = rows.get(i, CELL) == truth.get(i, CELL) && rows.get(i, SEEN) == truth.get(i, SEEN);
                if (!isSo) return i;
            }
            return rows.count < truth.count ? rows.count : -1;
        }
    }

    /** SHEETS, SHELVES, and DEALS with what they hold. */
    private static final class Host {
        private static final int PLACES = 4, ITEMS = 40, MOST_TRACE = 30;
        private static final int MISSING = -1, BYTES = 0, SHORTS = 1, BOOLEANS = 4;
        private static final int A_PERSON = 0, A_ROW = 1, EMPTY = 2;
        /** The KIND under which each KIND is. */
        private static final int[] ABOVE = {-1, FREE, SAFE, SWORN, FREE, FREE, TAKEN};

        private final World world;
        private final int[] sorts = {MISSING, MISSING, MISSING, MISSING};
        private final int[] sizes = new int[PLACES];
        private final int[][] items = new int[PLACES][ITEMS];
        private final int[] holds = {EMPTY, EMPTY, EMPTY, EMPTY};
        /** The PERSON that a SHELF holds, or the sort of the row; of a row no more than that and its size can be asked. */
        private final int[] held = new int[PLACES];
        private final int[] heldSizes = new int[PLACES];
        private final int[] trace = new int[MOST_TRACE];
        private int traced;
        private int number;
        private int cell;
        private int legs;
        private int kind;
        private boolean isPartedByZero;

        Host(World world) {
            this.world = world;
        }

        static boolean noPlace(int place) {
            return place < 0 || place >= PLACES;
        }

        void lay(int sheet, int sort, int n) {
            sorts[sheet] = sort;
            sizes[sheet] = sort == MISSING ? 0 : n;
            Arrays.fill(items[sheet], 0);
        }

        /** What is refused of so many items from i on of a SHEET taken for a sort; 0: nothing. */
        int refusal(int sheet, int sort, int i, int many) {
            if (sorts[sheet] == MISSING) return NOTHING;
            if (sorts[sheet] != sort) return OTHER_KIND;
            if (i < 0 || i > sizes[sheet] - many) return OUTSIDE;
            return 0;
        }

        static int narrowed(int sort, int v) {
            if (sort == BYTES) return (byte) v;
            if (sort == SHORTS) return (short) v;
            if (sort == BOOLEANS) return v != 0 ? 1 : 0;
            return v;
        }

        void store(int shelf, int what, int n) {
            holds[shelf] = what;
            held[shelf] = n;
            if (what != A_ROW || noPlace(n)) return;
            if (sorts[n] == MISSING) holds[shelf] = EMPTY;
            held[shelf] = sorts[n];
            heldSizes[shelf] = sizes[n];
        }

        private boolean holdsNothing(int shelf) {
            return holds[shelf] == EMPTY || holds[shelf] == A_PERSON && !world.people.has(held[shelf]);
        }

        int personTakenFor(int shelf, int as) {
            if (holdsNothing(shelf)) return NOTHING;
            if (holds[shelf] != A_PERSON || !isUnder(world.people.get(held[shelf], WHAT_STATE), as)) return OTHER_KIND;
            return held[shelf];
        }

        int rowTakenFor(int shelf, int sort) {
            if (holdsNothing(shelf)) return NOTHING;
            if (holds[shelf] != A_ROW || held[shelf] != sort) return OTHER_KIND;
            return heldSizes[shelf];
        }

        private static boolean isUnder(int is, int as) {
            int at = is;
            for (int i = 0; i < ABOVE.length && at >= 0 && at < ABOVE.length; i++) {
                if (at == as) return true;
                at = ABOVE[at];
            }
            return false;
        }

        int dealWith(int shelf, int deal, int x) {
            if (holdsNothing(shelf) || holds[shelf] != A_PERSON) return 0;
            number = held[shelf];
            cell = world.people.get(number, CELL);
            legs = world.people.get(number, LEGS);
            kind = world.people.get(number, WHAT_STATE);
            isPartedByZero = false;
            int answer = deal == 0 ? guards(kind, x) : deal == 1 ? ends(kind, x) : deal == 2 ? costs(kind, x) : parts(kind, x);
            return isPartedByZero ? PARTED_BY_ZERO : answer;
        }

        private void begin(int body) {
            if (traced >= MOST_TRACE) return;
            trace[traced] = body;
            traced++;
        }

        // Each DEAL below runs the body that the KIND `as` has, its own or that of the nearest KIND above it. A body's
        // super is the same DEAL as the KIND above, which has a lesser number: so these calls come to an end.

        private int guards(int as, int x) {
            if (as == LEAVING) {
                begin(40);
                return 0 - guards(SWORN, x);
            }
            if (as == SAFE || as == SWORN) {
                begin(20);
                return guards(FREE, x) ^ legs;
            }
            begin(10);
            return x + cell;
        }

        private int ends(int as, int x) {
            if (as == BROKEN) {
                begin(71);
                return ends(TAKEN, x) + number;
            }
            if (as == TAKEN) {
                begin(60);
                return ends(FREE, x) ^ 5;
            }
            if (as == LEAVING) {
                begin(41);
                return ends(SWORN, x) + guards(kind, 1);
            }
            if (as == SWORN) {
                begin(30);
                return ends(SAFE, x - 1);
            }
            begin(11);
            return guards(kind, x) * 2;
        }

        private int costs(int as, int x) {
            if (as == BROKEN) {
                begin(70);
                return costs(TAKEN, x) - ends(kind, 0);
            }
            if (as == DWELLER) {
                begin(50);
                return costs(FREE, x) * legs;
            }
            if (as == SAFE || as == SWORN || as == LEAVING) {
                begin(21);
                return costs(FREE, x) + 3;
            }
            begin(12);
            return ends(kind, x) - number;
        }

        private int parts(int as, int x) {
            if (as == TAKEN || as == BROKEN) {
                begin(61);
                return parts(FREE, x + 2);
            }
            if (as == SWORN || as == LEAVING) {
                begin(31);
                return parts(SAFE, x) + number;
            }
            begin(13);
            isPartedByZero = cell == 11;
            return isPartedByZero ? 0 : x / (cell - 11);
        }
    }
}
