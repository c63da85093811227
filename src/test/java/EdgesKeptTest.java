/** Promises 55 and 56 at their edges. */
public final class EdgesKeptTest extends Edges {
    public static void main(String[] args) throws Exception {
        runAll(EdgesKeptTest.class);
    }

    // ---- 55: keep

    @Says("All but THE TAPE, ROWS, SHEETS, SHELVES, THE TRACE is kept: 1.")
    static void promise55_everythingIsKept() {
        // Whatever comes between keep() and again(), all is as it was behind keep(), but for what is not kept.
        Call[] between = {r -> r.hours(9), r -> r.ground(77, 1), r -> r.person(9, 1), r -> r.move(1, 9), r -> r.stone(9, 1),
            r -> Check.read(r, 0, "x"), r -> r.strike(0), r -> r.deed(1, 0, -1, 0, 0, 0), r -> r.seek(0), r -> r.swear(1), r -> r.leave(2, 0),
            r -> r.dwell(1), r -> r.port(0, 1, 3), r -> r.take(0, 1), r -> r.post(9, 1, 0, 23), r -> r.aim(0, 9), r -> r.bell(9, 18),
            r -> r.sight(9, 0, 0)};
        for (Call change : between) {
            Made once = () -> {
                PeaceRing r = settled();
                r.keep();
                return r;
            };
            refused(1, once, r -> {
                change.on(r);
                return r.again();
            });
        }
    }

    @Says("All but THE TAPE, ROWS, SHEETS, SHELVES, THE TRACE is kept: 1.")
    static void promise55_aVersionReadBetweenIsGone() {
        PeaceRing r = by("mile 7;");
        r.hours(3);
        r.keep();
        Check.read(r, 0, "mile 8; forty 3;");
        Check.read(r, 1, "mile 9;");
        all(of(r.version(0, 3), r.rule(3, 0), r.again(), r.version(0, 3), r.rule(3, 0), r.rule(3, 2), r.many(3)), 3, 9, 1, NONE, 7, 40, 1);
        all(of(Check.read(r, 2, "mile 2;"), r.version(1, 0), r.version(1, 1)), 1, 2, 1);
    }

    @Says("is kept: 1.")
    static void promise55_twiceAndEmpty() {
        PeaceRing r = new PeaceRing();
        all(of(r.keep(), r.keep(), r.person(0, 1), r.again(), r.many(1)), 1, 1, 0, 1, 0);
    }

    @Says("All but THE TAPE, ROWS, SHEETS, SHELVES, THE TRACE is kept")
    static void promise55_keepingChangesNothing() {
        refused(1, () -> {
            PeaceRing r = rich();
            r.keep();
            return r;
        }, r -> r.keep());
    }

    @Says("All but THE TAPE, ROWS, SHEETS, SHELVES, THE TRACE is kept")
    static void promise55_whatIsNotKeptStaysAsItIs() {
        PeaceRing r = rich();
        r.keep();
        r.feed(0x3b30L, 2);
        r.run(1, 5, 1, 0);
        r.alterRow(3, 0, 77);
        r.sheet(0, 2, 3);
        r.put(0, 1, 77);
        r.shelf(3, 1, 0);
        r.deal(0, 0, 1);
        all(of(r.again(), r.many(11), r.many(10), r.row(3, 0), r.judge(), r.item(0, 2, 1), r.taken(3, 12), r.many(12), r.trace(0)),
            1, 8, 4, 77, 4, 77, 3, 3, 40);
        // "mile 70;" stands on THE TAPE.
        due(r.read(0), -105);
    }

    // ---- 56: again

    @Says("It becomes what was kept latest (which stays): 1.")
    static void promise56_againAndAgain() {
        PeaceRing r = new PeaceRing();
        r.person(5, 1);
        r.keep();
        for (int time = 0; time < 3; time++) {
            r.move(0, 6 + time);
            r.person(7, 1);
            r.hours(10);
            all(of(r.again(), r.personOf(0, 0), r.many(1), r.many(0)), 1, 5, 1, 0);
        }
    }

    @Says("what was kept latest")
    static void promise56_theLatest() {
        PeaceRing r = new PeaceRing();
        r.keep();
        r.person(5, 1);
        r.keep();
        r.person(5, 1);
        all(of(r.again(), r.many(1), r.keep(), r.person(5, 1), r.again(), r.many(1)), 1, 1, 1, 1, 1, 1);
    }

    @Says("It becomes what was kept latest")
    static void promise56_fullOnesAreNotFullAgain() {
        PeaceRing r = new PeaceRing();
        r.keep();
        for (int time = 0; time < 2; time++) {
            for (int p = 0; p < 16; p++) r.person(0, 1);
            for (int s = 0; s < 6; s++) r.stone(0, 1);
            for (int d = 0; d < 24; d++) r.deed(0, 0, -1, 0, 0, 0);
            for (int p = 0; p < 8; p++) r.post(0, 0, 0, 0);
            for (int b = 0; b < 8; b++) r.bell(0, 0);
            for (int s = 0; s < 16; s++) r.sight(0, 0, 0);
            for (int v = 0; v < 12; v++) r.read(0);
            all(of(r.person(0, 1), r.stone(0, 1), r.deed(0, 0, -1, 0, 0, 0), r.post(0, 0, 0, 0), r.bell(0, 0), r.sight(0, 0, 0), r.read(0)),
                FULL, FULL, FULL, FULL, FULL, FULL, FULL);
            due(r.again(), 1);
        }
        all(of(r.person(0, 1), r.stone(0, 1), r.deed(0, 0, -1, 0, 0, 0), r.post(0, 0, 0, 0), r.bell(0, 0), r.sight(0, 0, 0), r.read(0)),
            0, 0, 0, 0, 0, 0, 0);
        due(r.heard(0, 0), 0);
    }

    @Says("NONE: nothing is kept.")
    static void promise56_nothingIsKept() {
        refused(NONE, FRESH, r -> r.again());
        refused(NONE, EdgesGroundTest::sixteen, r -> r.again());
    }
}
