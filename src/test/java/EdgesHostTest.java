/** Promises 46 to 54 at their edges. */
public final class EdgesHostTest extends Edges {
    public static void main(String[] args) throws Exception {
        runAll(EdgesHostTest.class);
    }

    // ---- 46: sheet

    @Says({"A SHEET becomes a row of n of a sort, all 0,", "SHEETS 0 to 3 are rows of bytes (sort 0), shorts (1), ints (2), longs (3) or booleans (4), 40 at most"})
    static void promise46_noneToFortyItems() {
        PeaceRing r = new PeaceRing();
        for (int sheet = 0; sheet < 4; sheet++) {
            for (int sort = 0; sort < 5; sort++) {
                all(of(r.sheet(sheet, sort, 0), r.item(sheet, sort, 0)), 1, -12);
                all(of(r.sheet(sheet, sort, 40), r.item(sheet, sort, 39), r.item(sheet, sort, 40)), 1, 0, -12);
                all(of(r.put(sheet, 39, 1), r.sheet(sheet, sort, 40), r.item(sheet, sort, 39)), 1, 1, 0);
            }
        }
    }

    @Says({"or missing (sort -1; n isn't looked at): 1.", "or missing (at first)."})
    static void promise46_missing() {
        PeaceRing r = new PeaceRing();
        for (int sheet = 0; sheet < 4; sheet++) due(r.item(sheet, 0, 0), -11);
        for (int n : of(0, -1, 41, LOW, HIGH)) {
            r.sheet(1, 2, 3);
            all(of(r.item(1, 2, 0), r.sheet(1, -1, n), r.item(1, 2, 0)), 0, 1, -11);
        }
        due(r.sheet(0, -1, 5), 1);
    }

    @Says("BAD: no such SHEET, sort, n above 40")
    static void promise46_noSuchThing() {
        refused(BAD, RICH, r -> r.sheet(-1, 0, 5), r -> r.sheet(4, 0, 5), r -> r.sheet(LOW, 0, 5), r -> r.sheet(0, -2, 5),
            r -> r.sheet(0, 5, 5), r -> r.sheet(0, HIGH, 5), r -> r.sheet(0, 0, 41), r -> r.sheet(0, 0, HIGH), r -> r.sheet(4, -1, 5));
    }

    @Says({"-14.", "-14 a size below 0,"})
    static void promise46_sizeBelowNought() {
        refused(-14, RICH, r -> r.sheet(0, 0, -1), r -> r.sheet(1, 4, LOW), r -> r.sheet(3, 2, -40));
        refused(BAD, RICH, r -> r.sheet(4, 0, -1), r -> r.sheet(0, 5, -1), r -> r.sheet(0, -2, -1));
    }

    // ---- 47: put

    @Says("Item i becomes v, narrowed to its sort (booleans: whether it isn't 0): 1.")
    static void promise47_narrowed() {
        int[] told = {0, 1, -1, 127, 128, 255, 256, -128, -129, 32767, 32768, 65535, 65536, -32768, -32769, HIGH, LOW};
        PeaceRing r = new PeaceRing();
        for (int sort = 0; sort < 5; sort++) {
            r.sheet(2, sort, 1);
            for (int v : told) {
                int due = sort == 0 ? (byte) v : sort == 1 ? (short) v : sort == 4 ? v == 0 ? 0 : 1 : v;
                all(of(r.put(2, 0, v), r.item(2, sort, 0)), 1, due);
            }
        }
    }

    @Says("Item i becomes v")
    static void promise47_firstAndLastItem() {
        PeaceRing r = new PeaceRing();
        r.sheet(0, 2, 40);
        r.sheet(1, 2, 40);
        all(of(r.put(0, 0, 7), r.put(0, 39, 8)), 1, 1);
        all(of(r.item(0, 2, 0), r.item(0, 2, 1), r.item(0, 2, 38), r.item(0, 2, 39), r.item(1, 2, 0)), 7, 0, 0, 8, 0);
    }

    @Says("BAD: no such SHEET")
    static void promise47_noSuchSheet() {
        refused(BAD, RICH, r -> r.put(-1, 0, 5), r -> r.put(4, 0, 5), r -> r.put(LOW, 0, 5), r -> r.put(HIGH, 0, 5), r -> r.put(4, -1, 5));
    }

    @Says({"-11; -12.", "-11 nothing where something is asked,"})
    static void promise47_missing() {
        refused(-11, RICH, r -> r.put(2, 0, 5), r -> r.put(3, -1, 5), r -> r.put(3, 40, 5));
    }

    @Says({"-11; -12.", "-12 a place outside,"})
    static void promise47_outside() {
        // SHEET 0 has six items, 1 has two.
        refused(-12, RICH, r -> r.put(0, -1, 5), r -> r.put(0, 6, 5), r -> r.put(1, 2, 5), r -> r.put(0, LOW, 5), r -> r.put(0, HIGH, 5));
        PeaceRing r = new PeaceRing();
        all(of(r.sheet(0, 2, 0), r.put(0, 0, 5)), 1, -12);
    }

    // ---- 48: item

    @Says({"Item i, taken for a sort (0 to 4; of longs the lowest 32 bits, of booleans 1, 0).",
        "(An item may be as low as these, too.)"})
    static void promise48_itemsAsLowAsRefusals() {
        PeaceRing r = new PeaceRing();
        for (int sort = 0; sort < 4; sort++) {
            r.sheet(0, sort, 6);
            int[] low = {-1, -11, -12, -13, -14, -15};
            for (int i = 0; i < 6; i++) all(of(r.put(0, i, low[i]), r.item(0, sort, i)), 1, low[i]);
        }
        r.sheet(1, 3, 2);
        r.put(1, 0, LOW);
        r.put(1, 1, HIGH);
        all(of(r.item(1, 3, 0), r.item(1, 3, 1)), LOW, HIGH);
        r.sheet(1, 4, 2);
        r.put(1, 1, LOW);
        all(of(r.item(1, 4, 0), r.item(1, 4, 1)), 0, 1);
    }

    @Says("BAD: no such SHEET, sort")
    static void promise48_noSuchSheetOrSort() {
        refused(BAD, RICH, r -> r.item(-1, 0, 0), r -> r.item(4, 0, 0), r -> r.item(HIGH, 0, 0), r -> r.item(0, -1, 0),
            r -> r.item(0, 5, 0), r -> r.item(0, LOW, 0), r -> r.item(2, -1, 0), r -> r.item(4, 1, 9));
    }

    @Says({"-13; -11; -12.", "-13 a thing of another kind,"})
    static void promise48_anotherKind() {
        refused(-13, RICH, r -> r.item(0, 1, 0), r -> r.item(0, 4, 0), r -> r.item(1, 2, 0), r -> r.item(0, 1, 99), r -> r.item(1, 0, -1));
        refused(-11, RICH, r -> r.item(2, 0, 0), r -> r.item(3, 4, -1));
        refused(-12, RICH, r -> r.item(0, 0, -1), r -> r.item(0, 0, 6), r -> r.item(1, 3, 2), r -> r.item(0, 0, LOW), r -> r.item(0, 0, HIGH));
    }

    // ---- 49: comes

    /** SHEET 0 are bytes as told. */
    private static PeaceRing bytes(int... items) {
        PeaceRing r = new PeaceRing();
        r.ground(50, 1);
        r.sheet(0, 0, items.length);
        for (int i = 0; i < items.length; i++) r.put(0, i, items[i]);
        return r;
    }

    @Says("A POST comes from a SHEET taken for bytes: items i to i + 3 are what post() is told, in its order: what that answers.")
    static void promise49_whatPostAnswers() {
        PeaceRing r = bytes(99, 4, 20, 3, 9);
        all(of(r.comes(0, 0), r.many(6), r.sees(95, 23), r.sees(95, 3), r.sees(95, 4), r.sees(94, 23)), 0, 1, 1, 1, 0, 0);
        all(of(r.comes(0, 1), r.many(6), r.sees(4, 3), r.sees(4, 9), r.sees(4, 2)), BAD, 1, 0, 0, 0);
        r.put(0, 2, 5);
        // CELL 4, SIGHT 5: still BAD; SIGHT 4: 3 to 9.
        due(r.comes(0, 1), BAD);
        r.put(0, 2, 4);
        all(of(r.comes(0, 1), r.sees(8, 3), r.sees(8, 9), r.sees(8, 2), r.sees(9, 5)), 1, 2, 2, 0, 0);
    }

    @Says("what that answers.")
    static void promise49_whatPostRefuses() {
        refused(BAD, () -> bytes(-1, 0, 0, 0), r -> r.comes(0, 0));
        refused(BAD, () -> bytes(100, 0, 0, 0), r -> r.comes(0, 0));
        refused(BAD, () -> bytes(5, 5, 0, 0), r -> r.comes(0, 0));
        refused(BAD, () -> bytes(5, 0, 24, 0), r -> r.comes(0, 0));
        refused(BAD, () -> bytes(5, 0, 0, -128), r -> r.comes(0, 0));
        refused(STATE, () -> bytes(50, 0, 0, 0), r -> r.comes(0, 0));
        refused(FULL, () -> {
            PeaceRing r = EdgesPostsTest.eight();
            r.sheet(0, 0, 4);
            return r;
        }, r -> r.comes(0, 0));
    }

    @Says("BAD: no such SHEET")
    static void promise49_noSuchSheet() {
        refused(BAD, RICH, r -> r.comes(-1, 0), r -> r.comes(4, 0), r -> r.comes(LOW, 0), r -> r.comes(HIGH, -1));
    }

    @Says("-13; -11; -12.")
    static void promise49_anotherKindMissingOutside() {
        // SHEET 1 are longs, 2 is missing, 0 has six bytes.
        refused(-13, RICH, r -> r.comes(1, 0), r -> r.comes(1, 9), r -> r.comes(1, -1));
        refused(-11, RICH, r -> r.comes(2, 0), r -> r.comes(3, -1));
        refused(-12, RICH, r -> r.comes(0, -1), r -> r.comes(0, 3), r -> r.comes(0, 5), r -> r.comes(0, 6), r -> r.comes(0, LOW),
            r -> r.comes(0, HIGH), r -> r.comes(0, HIGH - 3), r -> r.comes(0, -4));
        for (int sort = 1; sort < 5; sort++) {
            PeaceRing r = new PeaceRing();
            r.sheet(0, sort, 4);
            due(r.comes(0, 0), -13);
        }
        refused(-12, () -> bytes(5, 0, 0), r -> r.comes(0, 0));
        refused(-12, () -> bytes(), r -> r.comes(0, 0));
        due(bytes(5, 0, 0, 0).comes(0, 0), 0);
        due(rich().comes(0, 2), BAD);
    }

    // ---- 50: shelf

    @Says({"A SHELF holds PERSON n (what 0), the row that SHEET n has now (1; nothing, if missing), nothing (2): 1.",
        "SHELVES 0 to 3 hold a PERSON", "a SHEET's row, or nothing (at first)."})
    static void promise50_threeThings() {
        PeaceRing r = rich();
        for (int shelf = 0; shelf < 4; shelf++) {
            all(of(r.shelf(shelf, 0, 8), r.taken(shelf, 5), r.shelf(shelf, 1, 1), r.taken(shelf, 13)), 1, 8, 1, 2);
            all(of(r.shelf(shelf, 1, 3), r.taken(shelf, 0), r.shelf(shelf, 0, 0), r.shelf(shelf, 2, HIGH), r.taken(shelf, 0)),
                1, -11, 1, 1, -11);
        }
        for (int shelf = 0; shelf < 4; shelf++) due(new PeaceRing().taken(shelf, 0), -11);
    }

    @Says("the row that SHEET n has now")
    static void promise50_theRowItHasNow() {
        PeaceRing r = new PeaceRing();
        r.sheet(0, 1, 40);
        r.shelf(0, 1, 0);
        r.sheet(0, 2, 3);
        r.shelf(1, 1, 0);
        r.sheet(0, -1, 0);
        r.shelf(2, 1, 0);
        all(of(r.taken(0, 11), r.taken(1, 12), r.taken(2, 12), r.taken(0, 12)), 40, 3, -11, -13);
        r.sheet(0, 0, 0);
        r.shelf(3, 1, 0);
        // A row of none is a row.
        all(of(r.taken(3, 10), r.taken(3, 11), r.taken(2, 10)), 0, -13, -11);
    }

    @Says("BAD.")
    static void promise50_noSuchThing() {
        refused(BAD, RICH, r -> r.shelf(-1, 0, 0), r -> r.shelf(4, 0, 0), r -> r.shelf(LOW, 2, 0), r -> r.shelf(0, -1, 0),
            r -> r.shelf(0, 3, 0), r -> r.shelf(0, HIGH, 0), r -> r.shelf(0, 0, -1), r -> r.shelf(0, 0, 9), r -> r.shelf(0, 0, HIGH),
            r -> r.shelf(0, 1, -1), r -> r.shelf(0, 1, 4), r -> r.shelf(0, 1, LOW), r -> r.shelf(4, 2, 0));
        refused(BAD, FRESH, r -> r.shelf(0, 0, 0));
    }

    // ---- 51: taken

    /** A PERSON of each KIND in the settled ring. */
    private static final int[] OF_KIND = {0, 1, 2, 3, 4, 8, 5};

    @Says({"What a SHELF holds taken for a PERSON of KIND as (0 to 6, or one under it): their number;",
        "KINDS: 0 state, 1 safe (under state), 2 sworn (under safe), 3 leaving (under sworn), 4 dweller (under state), 5 taken (under state), 6 broken (under taken): a PERSON by what they are."})
    static void promise51_kindsAndWhatIsUnderThem() {
        int[] isAlso = {1, 3, 7, 15, 17, 33, 97};
        PeaceRing r = rich();
        for (int kind = 0; kind < 7; kind++) {
            r.shelf(3, 0, OF_KIND[kind]);
            for (int as = 0; as < 7; as++) due(r.taken(3, as), (isAlso[kind] >> as & 1) == 1 ? OF_KIND[kind] : -13);
            for (int as = 10; as < 15; as++) due(r.taken(3, as), -13);
        }
    }

    @Says("for a row of sort as - 10 (as 10 to 14): how many items.")
    static void promise51_rows() {
        PeaceRing r = new PeaceRing();
        for (int sort = 0; sort < 5; sort++) {
            r.sheet(0, sort, 10 * sort);
            r.shelf(0, 1, 0);
            for (int as = 10; as < 15; as++) due(r.taken(0, as), as - 10 == sort ? 10 * sort : -13);
            for (int as = 0; as < 7; as++) due(r.taken(0, as), -13);
        }
    }

    @Says("BAD: no such SHELF, as")
    static void promise51_noSuchShelfOrAs() {
        refused(BAD, RICH, r -> r.taken(-1, 0), r -> r.taken(4, 0), r -> r.taken(LOW, 0), r -> r.taken(0, -1), r -> r.taken(0, 7),
            r -> r.taken(0, 8), r -> r.taken(0, 9), r -> r.taken(0, 15), r -> r.taken(0, LOW), r -> r.taken(0, HIGH), r -> r.taken(2, 7),
            r -> r.taken(1, 9));
    }

    @Says({"-13; -11.", "-13 a thing of another kind,"})
    static void promise51_anotherKindOrNothing() {
        // SHELF 0 holds one who is leaving, 1 six bytes, 2 and 3 nothing.
        refused(-13, RICH, r -> r.taken(0, 4), r -> r.taken(0, 5), r -> r.taken(0, 10), r -> r.taken(1, 0), r -> r.taken(1, 11));
        refused(-11, RICH, r -> r.taken(2, 0), r -> r.taken(2, 6), r -> r.taken(3, 10), r -> r.taken(3, 14));
        all(of(rich().taken(0, 3), rich().taken(1, 10)), 3, 6);
    }

    @Says("(of their KIND as it is now; nothing, if there is no such one any more)")
    static void promise51_asItIsNow() {
        PeaceRing r = new PeaceRing();
        r.stone(0, 1);
        r.person(0, 1);
        r.keep();
        r.person(0, 1);
        r.shelf(0, 0, 1);
        all(of(r.taken(0, 1), r.seek(1), r.taken(0, 1), r.taken(0, 2), r.swear(1), r.taken(0, 2)), -13, 1, 1, -13, 1, 1);
        r.again();
        all(of(r.taken(0, 0), r.taken(0, 1), r.taken(0, 10), r.deal(0, 0, 5), r.many(12)), -11, -11, -11, 0, 0);
        r.person(0, 3);
        // There is one of that number again.
        all(of(r.taken(0, 0), r.taken(0, 1), r.deal(0, 0, 5)), 1, -13, 5);
    }

    // ---- 52: deal

    /** DEALS 0 to 3 with x of a KIND, with the PERSON at a CELL. */
    private static int[] deals(int kind, int cell, int x) {
        PeaceRing r = rich();
        r.move(OF_KIND[kind], cell);
        r.shelf(0, 0, OF_KIND[kind]);
        return of(r.deal(0, 0, x), r.deal(0, 1, x), r.deal(0, 2, x), r.deal(0, 3, x));
    }

    @Says({"A DEAL (0 to 3) with what a SHELF holds, taken for a PERSON, with x.",
        "DEALS with a thing by its KIND, with a number x (ints that wrap): 0 guards, 1 ends, 2 costs, 3 parts.",
        "n: its number, c: its CELL, l: LEGS.", "BODIES, each with its number:",
        "state: 10 guards: x + c. 11 ends: guards(x) * 2. 12 costs: ends(x) - n. 13 parts: x by (c - 11), the rest away",
        "safe: 20 guards: super.guards(x) ^ l. 21 costs: super.costs(x) + 3.",
        "sworn: 30 ends: super.ends(x - 1). 31 parts: super.parts(x) + n.",
        "leaving: 40 guards: 0 - super.guards(x). 41 ends: super.ends(x) + guards(1).",
        "dweller: 50 costs: super.costs(x) * l.", "taken: 60 ends: super.ends(x) ^ 5. 61 parts: super.parts(x + 2).",
        "broken: 70 costs: super.costs(x) - ends(0). 71 ends: super.ends(x) + n."})
    static void promise52_everyBody() {
        int[] n = OF_KIND;
        int[] l = {1, 2, 3, 4, 1, 2, 2};
        for (int cell : of(1, 10, 12, 99)) {
            for (int x : of(0, 1, -1, 7, -100, HIGH, LOW, HIGH - 1, LOW + 1, 1 << 30)) {
                for (int kind = 0; kind < 7; kind++) all(deals(kind, cell, x), due(kind, cell, x, n[kind], l[kind]));
            }
        }
    }

    /** The bodies worked out by hand for each KIND. */
    private static int[] due(int kind, int c, int x, int n, int l) {
        int part = x / (c - 11);
        switch (kind) {
            case 0: return of(x + c, (x + c) * 2, (x + c) * 2 - n, part);
            case 1: return of((x + c) ^ l, ((x + c) ^ l) * 2, ((x + c) ^ l) * 2 - n + 3, part);
            case 2: {
                int ends = ((x - 1 + c) ^ l) * 2;
                return of((x + c) ^ l, ends, ends - n + 3, part + n);
            }
            case 3: {
                int ends = -((x - 1 + c) ^ l) * 2 - ((1 + c) ^ l);
                return of(-((x + c) ^ l), ends, ends - n + 3, part + n);
            }
            case 4: return of(x + c, (x + c) * 2, ((x + c) * 2 - n) * l, part);
            case 5: return of(x + c, (x + c) * 2 ^ 5, ((x + c) * 2 ^ 5) - n, (x + 2) / (c - 11));
            default: {
                int ends = ((x + c) * 2 ^ 5) + n;
                return of(x + c, ends, ends - n - ((c * 2 ^ 5) + n), (x + 2) / (c - 11));
            }
        }
    }

    @Says("with a number x (ints that wrap)")
    static void promise52_wraps() {
        all(deals(0, 99, HIGH), LOW + 98, 196, 196, HIGH / 88);
        all(deals(0, 10, LOW), LOW + 10, 20, 20, LOW);
        // 61: x + 2 wraps to LOW, which parted by -1 is LOW again.
        all(of(deals(5, 10, HIGH - 1)[3], deals(6, 10, HIGH - 1)[3], deals(5, 12, HIGH)[3]), LOW, LOW, LOW + 1);
    }

    @Says({"x by (c - 11), the rest away", "(-15 if c is 11; that is all that deal() answers then).", "-15 parted by 0."})
    static void promise52_partedByNought() {
        for (int kind = 0; kind < 7; kind++) {
            all(of(deals(kind, 11, 7)[3], deals(kind, 11, 0)[3], deals(kind, 11, LOW)[3]), -15, -15, -15);
            for (int other = 0; other < 3; other++) due(deals(kind, 11, 7)[other] == -15 ? 1 : 0, 0);
        }
        all(of(deals(0, 9, 7)[3], deals(0, 9, -7)[3], deals(0, 13, 7)[3], deals(0, 13, -7)[3]), -3, 3, 3, -3);
        // The DEAL behind it answers as ever.
        PeaceRing r = rich();
        r.move(0, 11);
        r.shelf(0, 0, 0);
        all(of(r.deal(0, 3, 5), r.deal(0, 0, 5), r.deal(0, 3, 5), r.deal(0, 1, 5), r.move(0, 12), r.deal(0, 3, 5)), -15, 16, -15, 32, 11, 5);
    }

    @Says("0, and no TRACE then: no such SHELF, deal, nothing, a row.")
    static void promise52_noughtAndNoTrace() {
        // SHELF 0 holds a PERSON, 1 a row, 2 nothing.
        Call[] calls = {r -> r.deal(-1, 0, 5), r -> r.deal(4, 0, 5), r -> r.deal(LOW, 0, 5), r -> r.deal(0, -1, 5), r -> r.deal(0, 4, 5),
            r -> r.deal(0, HIGH, 5), r -> r.deal(2, 0, 5), r -> r.deal(3, 3, 5), r -> r.deal(1, 0, 5), r -> r.deal(1, 3, 5)};
        for (Call call : calls) {
            PeaceRing r = rich();
            all(of(r.many(12), call.on(r), r.many(12), r.trace(0)), 9, 0, 0, NONE);
        }
        refused(0, () -> {
            PeaceRing r = rich();
            r.deal(-1, 0, 0);
            return r;
        }, calls);
    }

    // ---- 53: trace

    @Says({"THE TRACE's i-th body.", "THE TRACE: numbers of the bodies that ran in the latest deal(), as they began (left first)"})
    static void promise53_asTheyBegan() {
        int[][] bodies = {{10}, {11, 10}, {12, 11, 10}, {13}, {20, 10}, {11, 20, 10}, {21, 12, 11, 20, 10}, {13},
            {20, 10}, {30, 11, 20, 10}, {21, 12, 30, 11, 20, 10}, {31, 13},
            {40, 20, 10}, {41, 30, 11, 40, 20, 10, 40, 20, 10}, {21, 12, 41, 30, 11, 40, 20, 10, 40, 20, 10}, {31, 13},
            {10}, {11, 10}, {50, 12, 11, 10}, {13}, {10}, {60, 11, 10}, {12, 60, 11, 10}, {61, 13},
            {10}, {71, 60, 11, 10}, {70, 12, 71, 60, 11, 10, 71, 60, 11, 10}, {61, 13}};
        PeaceRing r = rich();
        for (int kind = 0; kind < 7; kind++) {
            r.shelf(2, 0, OF_KIND[kind]);
            for (int deal = 0; deal < 4; deal++) {
                r.deal(2, deal, 5);
                int[] told = new int[r.many(12)];
                for (int i = 0; i < told.length; i++) told[i] = r.trace(i);
                all(told, bodies[4 * kind + deal]);
                due(r.trace(told.length), NONE);
            }
        }
    }

    @Says("the first 30 are kept.")
    static void promise53_neverMoreThanThirty() {
        // The longest of all has eleven bodies: nothing is ever cut off.
        int longest = 0;
        PeaceRing r = rich();
        for (int kind = 0; kind < 7; kind++) {
            r.shelf(2, 0, OF_KIND[kind]);
            for (int deal = 0; deal < 4; deal++) {
                r.deal(2, deal, 5);
                longest = Math.max(longest, r.many(12));
            }
        }
        due(longest, 11);
    }

    @Says("in the latest deal()")
    static void promise53_behindOneThatWasPartedByNought() {
        PeaceRing r = rich();
        r.move(2, 11);
        r.shelf(0, 0, 2);
        all(of(r.deal(0, 3, 5), r.many(12), r.trace(0), r.trace(1), r.trace(2)), -15, 2, 31, 13, NONE);
    }

    @Says("NONE.")
    static void promise53_noSuchBody() {
        // THE TRACE of the settled ring has nine.
        refused(NONE, RICH, r -> r.trace(-1), r -> r.trace(9), r -> r.trace(29), r -> r.trace(30), r -> r.trace(LOW), r -> r.trace(HIGH));
        refused(NONE, FRESH, r -> r.trace(0));
        all(of(rich().trace(0), rich().trace(8)), 41, 10);
    }

    // ---- 54: many

    @Says({"How many: what = 0 NOW, 1 PERSONS, 2 STONES, 3 VERSIONS, 4 DEEDS, 5 TAKINGS, 6 POSTS, 7 RUNNERS, 8 BELLS, 9 SIGHTS, 10 ROWS,",
        "11 bytes of THE TAPE, 12 bodies of THE TRACE, 13 PERSONS that are SAFE where they are NOW, as KNOWN NOW."})
    static void promise54_ofEverything() {
        PeaceRing r = rich();
        int[] all = new int[14];
        for (int what = 0; what < 14; what++) all[what] = r.many(what);
        all(all, 30, 9, 2, 3, 3, 2, 2, 2, 1, 2, 3, 6, 9, 7);
        PeaceRing none = new PeaceRing();
        for (int what = 0; what < 14; what++) due(none.many(what), 0);
    }

    @Says("13 PERSONS that are SAFE where they are NOW, as KNOWN NOW.")
    static void promise54_whoIsSafeNow() {
        PeaceRing r = by("theft fail;");
        r.stone(0, 1);
        for (int p = 0; p < 16; p++) r.person(0, 1);
        due(r.many(13), 16);
        for (int p = 0; p < 16; p++) r.deed(p, 0, -1, 0, 0, p < 8 ? 0 : 3);
        due(r.many(13), 8);
        r.move(15, 99);
        due(r.many(13), 7);
        r.hours(2);
        due(r.many(13), 7);
        r.hours(1);
        due(r.many(13), 0);
        r.strike(0);
        due(r.many(13), 15);
        // One who is taken may be SAFE still.
        r.take(1, 0);
        due(r.many(13), 15);
    }

    @Says("BAD: another what.")
    static void promise54_anotherWhat() {
        refused(BAD, RICH, r -> r.many(-1), r -> r.many(14), r -> r.many(LOW), r -> r.many(HIGH));
    }
}
