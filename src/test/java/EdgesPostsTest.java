/** Promises 30 to 39 at their edges. */
public final class EdgesPostsTest extends Edges {
    public static void main(String[] args) throws Exception {
        runAll(EdgesPostsTest.class);
    }

    // ---- 30: post

    @Says({"A POST: its number.", "POSTS, 8 at most, numbered as they come: at a CELL, SIGHT (0 to 4)"})
    static void promise30_eightAreNumbered() {
        PeaceRing r = new PeaceRing();
        int[][] told = {{0, 0, 0, 0}, {99, 4, 23, 23}, {0, 4, 0, 23}, {99, 0, 23, 0}, {55, 1, 12, 12}, {55, 2, 5, 4}, {9, 3, 0, 1}, {90, 4, 1, 0}};
        for (int p = 0; p < 8; p++) due(r.post(told[p][0], told[p][1], told[p][2], told[p][3]), p);
        all(of(r.many(6), r.sees(0, 0), r.sees(99, 23)), 8, 5, 10);
    }

    @Says("BAD: there is no such CELL, CLOCK (either), or sight isn't as told")
    static void promise30_noSuchThing() {
        refused(BAD, RICH, r -> r.post(-1, 0, 0, 0), r -> r.post(100, 0, 0, 0), r -> r.post(LOW, 0, 0, 0), r -> r.post(5, -1, 0, 0),
            r -> r.post(5, 5, 0, 0), r -> r.post(5, HIGH, 0, 0), r -> r.post(5, 0, -1, 0), r -> r.post(5, 0, 24, 0),
            r -> r.post(5, 0, 0, -1), r -> r.post(5, 0, 0, 24), r -> r.post(5, 0, LOW, HIGH), r -> r.post(50, 0, 24, 0));
    }

    @Says("STATE: it is a wall")
    static void promise30_notOnAWall() {
        refused(STATE, RICH, r -> r.post(50, 0, 0, 0), r -> r.post(0, 4, 0, 23));
        due(rich().post(65, 0, 0, 0), 2);
    }

    static PeaceRing eight() {
        PeaceRing r = new PeaceRing();
        r.ground(50, 1);
        r.stone(5, 1);
        for (int p = 0; p < 8; p++) r.post(p, p % 5, p, 23 - p);
        return r;
    }

    @Says({"FULL.", "POSTS, 8 at most"})
    static void promise30_noNinth() {
        refused(FULL, EdgesPostsTest::eight, r -> r.post(5, 0, 0, 0), r -> r.post(99, 4, 23, 0));
    }

    @Says("of several the first named")
    static void promise30_badThenStateThenFull() {
        refused(BAD, EdgesPostsTest::eight, r -> r.post(50, 5, 0, 0), r -> r.post(5, 0, 24, 0));
        refused(STATE, EdgesPostsTest::eight, r -> r.post(50, 0, 0, 0));
    }

    // ---- 31: sees

    @Says({"POSTS that see a CELL at an HOUR, as bits.",
        "A POST sees, at an HOUR at which it is manned, all CELLS that are SIGHT FAR at most."})
    static void promise31_sightFarAtMost() {
        PeaceRing r = new PeaceRing();
        for (int sight = 0; sight < 5; sight++) r.post(50, sight, 0, 23);
        for (int off = 0; off < 6; off++) due(r.sees(50 + off, 0), 31 & -1 << off);
        // Walls do not hinder it, and the rim isn't crossed: 49 is ten FAR from 50.
        r.ground(51, 1);
        all(of(r.sees(51, 0), r.sees(52, 0), r.sees(49, 0), r.sees(61, 0), r.sees(90, 0)), 30, 28, 0, 28, 16);
    }

    @Says({"manned from a CLOCK to a CLOCK (both with them;", "its CLOCK: it modulo 24;"})
    static void promise31_bothClocksWithThem() {
        PeaceRing r = new PeaceRing();
        r.post(0, 0, 6, 12);
        r.post(0, 0, 8, 8);
        r.post(0, 0, 0, 23);
        int[] hours = {0, 5, 6, 7, 8, 9, 12, 13, 23, 24 + 6, 24 + 5, 24 + 8, 9996, 9997, 9999};
        int[] due = {4, 4, 5, 5, 7, 5, 5, 4, 4, 5, 4, 7, 5, 4, 4};
        for (int i = 0; i < hours.length; i++) due(r.sees(0, hours[i]), due[i]);
    }

    @Says("across midnight, if the first is above the second).")
    static void promise31_acrossMidnight() {
        PeaceRing r = new PeaceRing();
        r.post(0, 0, 23, 0);
        r.post(0, 0, 20, 3);
        r.post(0, 0, 13, 12);
        r.post(0, 0, 1, 0);
        int[] hours = {23, 24, 0, 1, 22, 20, 19, 3, 4, 12, 13, 9999, 9983, 9984};
        int[] due = {15, 15, 15, 14, 14, 14, 12, 14, 12, 12, 12, 12, 15, 15};
        for (int i = 0; i < hours.length; i++) due(r.sees(0, hours[i]), due[i]);
        // From 13 to 12 and from 1 to 0 are all of them.
        for (int hour = 0; hour < 24; hour++) due(r.sees(0, hour) & 12, 12);
    }

    @Says("BAD: there is no such CELL, HOUR.")
    static void promise31_noSuchCellOrHour() {
        refused(BAD, RICH, r -> r.sees(-1, 0), r -> r.sees(100, 0), r -> r.sees(HIGH, 0), r -> r.sees(5, -1), r -> r.sees(5, 10000),
            r -> r.sees(5, LOW), r -> r.sees(5, HIGH));
    }

    // ---- 32: aim

    @Says("AIM of a PERSON: what it was (NONE).")
    static void promise32_whatItWas() {
        PeaceRing r = rich();
        // A wall, too; the same again, too. All but those who are taken or broken may have one.
        all(of(r.aim(1, 0), r.aim(1, 99), r.aim(1, 99), r.aim(1, 50), r.personOf(1, 4)), 90, 0, 99, 99, 50);
        for (int p : of(0, 2, 3, 4, 7)) due(r.aim(p, 1), NONE);
        due(r.many(7), 7);
    }

    @Says("BAD: there is no such PERSON, CELL")
    static void promise32_noSuchPersonOrCell() {
        refused(BAD, RICH, r -> r.aim(-1, 5), r -> r.aim(9, 5), r -> r.aim(LOW, 5), r -> r.aim(0, -1), r -> r.aim(0, 100),
            r -> r.aim(0, HIGH), r -> r.aim(5, 100), r -> r.aim(8, -1));
    }

    @Says("STATE: they are taken or broken, or there already.")
    static void promise32_takenOrThere() {
        refused(STATE, RICH, r -> r.aim(5, 5), r -> r.aim(8, 5), r -> r.aim(0, 55), r -> r.aim(1, 55), r -> r.aim(7, 59));
    }

    // ---- 33: run

    private static int[] cells(PeaceRing r) {
        int[] all = new int[r.many(10)];
        for (int i = 0; i < all.length; i++) all[i] = r.row(i, 0);
        return all;
    }

    private static int[] seen(PeaceRing r) {
        int[] all = new int[r.many(10)];
        for (int i = 0; i < all.length; i++) all[i] = r.row(i, 1);
        return all;
    }

    /** A lane one CELL wide, 0 to 9, with walls below. */
    private static PeaceRing lane() {
        PeaceRing r = new PeaceRing();
        for (int cell = 10; cell < 20; cell++) r.ground(cell, 1);
        return r;
    }

    @Says({"THE RUN: what = 0 STEPS SEEN, 1 STEPS, 2 the CELL of the first STEP", "ROWS of it are told.",
        "ROWS of it: for each STEP (CELL, 1 if it is SEEN, else 0)."})
    static void promise33_threeThingsAndRows() {
        PeaceRing r = lane();
        r.post(2, 0, 0, 23);
        r.post(0, 0, 0, 23);
        for (int what = 0; what < 3; what++) due(r.run(0, 3, 1, what), of(1, 3, 1)[what]);
        all(cells(r), 1, 2, 3);
        all(seen(r), 0, 1, 0);
        // Where one starts none is SEEN; where one ends one is.
        all(of(r.run(3, 0, 4, 0), r.run(3, 0, 4, 1), r.run(3, 0, 4, 2)), 2, 3, 2);
        all(seen(r), 1, 0, 1);
    }

    @Says("(NONE: there is none).")
    static void promise33_noFirstStep() {
        PeaceRing r = rich();
        all(of(r.run(55, 55, 1, 2), r.many(10), r.judge(), r.run(55, 55, 1, 0), r.run(55, 55, 1, 1)), NONE, 0, 0, 0, 0);
    }

    @Says({"THE RUN from a CELL to another one with LEGS, begun NOW: the n-th STEP (from 1) is at the HOUR NOW and n less 1 by LEGS, and 1 more.",
        "SEEN is each STEP to a CELL that a POST sees at its HOUR."})
    static void promise33_theHourOfEachStep() {
        for (int legs = 1; legs <= 4; legs++) {
            for (int clock = 0; clock < 24; clock++) {
                // One lane, all of it seen at one CLOCK, begun at 22: nothing is gained by waiting at both ends of it.
                PeaceRing r = lane();
                r.hours(22);
                for (int post : of(1, 5, 9)) r.post(post, 4, clock, clock);
                int steps = r.run(0, 9, legs, 1);
                for (int n = 1; n <= steps; n++) due(r.row(n - 1, 1), (22 + (n - 1) / legs + 1) % 24 == clock ? 1 : 0);
            }
        }
    }

    @Says("THE RUN is that with the fewest STEPS SEEN;")
    static void promise33_fewestSeenFirst() {
        PeaceRing r = new PeaceRing();
        r.post(1, 0, 0, 23);
        r.post(11, 0, 0, 23);
        r.post(21, 0, 0, 23);
        // All the way round rather than SEEN once.
        all(of(r.run(0, 2, 1, 0), r.run(0, 2, 1, 1), r.run(0, 2, 1, 2)), 0, 8, 10);
        all(cells(r), 10, 20, 30, 31, 32, 22, 12, 2);
        PeaceRing wait = lane();
        wait.post(2, 0, 1, 5);
        // To and fro till nobody sees it; or SEEN at once, if the rest of the sixty STEPS are.
        all(of(wait.run(0, 2, 1, 0), wait.run(0, 2, 1, 1), wait.run(0, 2, 2, 0), wait.run(0, 2, 2, 1)), 0, 6, 0, 12);
    }

    @Says("of several that with the fewest STEPS;")
    static void promise33_fewestStepsThen() {
        PeaceRing r = new PeaceRing();
        all(of(r.run(0, 99, 1, 0), r.run(0, 99, 1, 1), r.run(99, 0, 4, 1), r.run(0, 1, 1, 1)), 0, 18, 18, 1);
        r = lane();
        r.post(1, 0, 0, 23);
        r.post(2, 0, 0, 23);
        all(of(r.run(0, 3, 1, 0), r.run(0, 3, 1, 1)), 2, 3);
    }

    @Says("of several the least CELL at the first STEP at which they are unlike;")
    static void promise33_leastCellThen() {
        PeaceRing r = new PeaceRing();
        r.run(0, 22, 1, 0);
        all(cells(r), 1, 2, 12, 22);
        r.run(22, 0, 1, 0);
        all(cells(r), 12, 2, 1, 0);
        r.run(2, 20, 1, 0);
        all(cells(r), 1, 0, 10, 20);
        r.run(20, 2, 1, 0);
        all(cells(r), 10, 0, 1, 2);
        // To and fro goes to the least CELL as well, where it can.
        r = new PeaceRing();
        r.post(56, 0, 1, 1);
        r.run(55, 56, 1, 0);
        all(cells(r), 45, 46, 56);
    }

    /** One lane that winds through THE GROUND: 62 CELLS, none beside another one but as they follow. */
    private static PeaceRing snake() {
        int[] lane = {40, 50, 51, 61, 71, 70, 80, 90, 91, 92, 93, 83, 73, 63, 64, 54, 44, 43, 42, 32, 31, 21, 20, 10, 0, 1, 2,
            12, 13, 23, 24, 25, 15, 16, 6, 7, 8, 9, 19, 29, 39, 49, 59, 69, 79, 89, 99, 98, 97, 96, 95, 85, 75, 76, 77, 67, 57,
            56, 46, 36, 37, 27};
        PeaceRing r = new PeaceRing();
        boolean[] open = new boolean[100];
        for (int cell : lane) open[cell] = true;
        for (int cell = 0; cell < 100; cell++) if (!open[cell]) r.ground(cell, 1);
        r.run(40, 50, 1, 0);
        return r;
    }

    @Says({"60 STEPS at most.", "NONE: there is none in 60 STEPS (from a wall, too)."})
    static void promise33_sixtySteps() {
        PeaceRing r = snake();
        all(of(r.between(40, 37, 0), r.run(40, 37, 1, 1), r.many(10), r.row(59, 0), r.row(60, 0)), 60, 60, 60, 37, -9);
        refused(NONE, EdgesPostsTest::snake, s -> s.run(40, 27, 1, 0), s -> s.run(27, 40, 4, 1), s -> s.run(40, 27, 1, 2));
        // With sixty STEPS there is no time to wait: SEEN, though two STEPS more would do.
        r.post(50, 0, 1, 1);
        all(of(r.run(40, 37, 1, 0), r.run(40, 37, 1, 1)), 1, 60);
        PeaceRing wait = lane();
        wait.post(2, 0, 1, 14);
        all(of(wait.run(0, 2, 4, 0), wait.run(0, 2, 4, 1)), 0, 58);
        wait.post(2, 0, 15, 15);
        // With the 60th STEP it is still 15: SEEN, and then at once.
        all(of(wait.run(0, 2, 4, 0), wait.run(0, 2, 4, 1)), 1, 2);
    }

    @Says("NONE: there is none in 60 STEPS (from a wall, too).")
    static void promise33_noRun() {
        // 0 and 50 are walls.
        refused(NONE, RICH, r -> r.run(50, 55, 1, 0), r -> r.run(55, 50, 1, 1), r -> r.run(50, 50, 1, 1), r -> r.run(0, 50, 4, 2),
            r -> r.run(50, 50, 1, 2));
        refused(NONE, () -> {
            PeaceRing r = new PeaceRing();
            r.ground(1, 1);
            r.ground(10, 1);
            r.run(5, 7, 1, 0);
            return r;
        }, r -> r.run(0, 99, 1, 0), r -> r.run(99, 0, 1, 0));
    }

    @Says("BAD: there is no such CELL (either), legs isn't 1 to 4, another what")
    static void promise33_noSuchThing() {
        refused(BAD, RICH, r -> r.run(-1, 5, 1, 0), r -> r.run(100, 5, 1, 0), r -> r.run(5, -1, 1, 0), r -> r.run(5, 100, 1, 0),
            r -> r.run(5, 6, 0, 0), r -> r.run(5, 6, 5, 0), r -> r.run(5, 6, -1, 0), r -> r.run(5, 6, HIGH, 0), r -> r.run(5, 6, 1, -1),
            r -> r.run(5, 6, 1, 3), r -> r.run(LOW, HIGH, 1, 0), r -> r.run(50, 5, 5, 0));
    }

    // ---- 34 to 36: rows

    /** ROWS 1, 2, 3 of a run; the second is SEEN. */
    private static PeaceRing threeRows() {
        PeaceRing r = lane();
        r.post(2, 0, 0, 23);
        r.run(0, 3, 1, 0);
        return r;
    }

    @Says("Of ROW i: what = 0 CELL, 1 SEEN.")
    static void promise34_cellAndSeen() {
        PeaceRing r = threeRows();
        all(of(r.row(0, 0), r.row(0, 1), r.row(1, 0), r.row(1, 1), r.row(2, 0), r.row(2, 1)), 1, 0, 2, 1, 3, 0);
    }

    @Says("-9: there is none such, another what.")
    static void promise34_noSuchRowOrWhat() {
        refused(-9, EdgesPostsTest::threeRows, r -> r.row(-1, 0), r -> r.row(3, 0), r -> r.row(3, 1), r -> r.row(60, 0), r -> r.row(LOW, 0),
            r -> r.row(HIGH, 1), r -> r.row(0, -1), r -> r.row(0, 2), r -> r.row(0, LOW), r -> r.row(0, HIGH));
        refused(-9, FRESH, r -> r.row(0, 0));
    }

    @Says("It becomes v: what it was.")
    static void promise35_anyNumber() {
        PeaceRing r = threeRows();
        all(of(r.alterRow(0, 0, LOW), r.alterRow(0, 0, HIGH), r.alterRow(2, 1, -9), r.alterRow(2, 1, 1)), 1, LOW, 0, -9);
        all(of(r.row(0, 0), r.row(2, 1), r.row(1, 0), r.many(10)), HIGH, 1, 2, 3);
        // A new run tells its own ROWS.
        all(of(r.run(0, 3, 1, 0), r.row(0, 0)), 1, 1);
    }

    @Says("-9 likewise.")
    static void promise35_noSuchRowOrWhat() {
        refused(-9, EdgesPostsTest::threeRows, r -> r.alterRow(-1, 0, 5), r -> r.alterRow(3, 0, 5), r -> r.alterRow(3, 1, 5),
            r -> r.alterRow(LOW, 0, 5), r -> r.alterRow(HIGH, 0, 5), r -> r.alterRow(0, -1, 5), r -> r.alterRow(0, 2, 5));
        refused(-9, FRESH, r -> r.alterRow(0, 0, 5));
    }

    @Says("The latest ROW goes: how many there are.")
    static void promise36_oneByOne() {
        PeaceRing r = threeRows();
        all(of(r.dropRow(), r.row(2, 0), r.row(1, 0), r.dropRow(), r.dropRow(), r.many(10), r.row(0, 0)), 2, -9, 2, 1, 0, 0, -9);
        all(of(r.dropRow(), r.run(0, 3, 1, 1), r.many(10)), NONE, 3, 3);
    }

    @Says("NONE: there are none.")
    static void promise36_noneLeft() {
        refused(NONE, FRESH, r -> r.dropRow());
        refused(NONE, () -> {
            PeaceRing r = threeRows();
            for (int i = 0; i < 3; i++) r.dropRow();
            return r;
        }, r -> r.dropRow());
        refused(NONE, () -> {
            PeaceRing r = threeRows();
            r.run(5, 5, 1, 0);
            return r;
        }, r -> r.dropRow());
    }

    // ---- 37: judge

    @Says({"THE READER on ROWS as those of the latest run() that was not refused, and 1 more (0: all are right).",
        "THE READER: the first row that isn't so;", "-1: all are right."})
    static void promise37_theFirstRowThatIsNotSo() {
        PeaceRing r = threeRows();
        due(r.judge(), 0);
        r.alterRow(2, 0, 4);
        due(r.judge(), 3);
        r.alterRow(1, 1, 0);
        due(r.judge(), 2);
        r.alterRow(0, 1, 2);
        due(r.judge(), 1);
        r.alterRow(0, 1, 0);
        r.alterRow(1, 1, 1);
        r.alterRow(2, 0, 3);
        due(r.judge(), 0);
    }

    @Says("how many there are, if they are right, but too few;")
    static void promise37_tooFew() {
        PeaceRing r = threeRows();
        for (int left = 2; left >= 0; left--) all(of(r.dropRow(), r.judge()), left, left + 1);
        r = threeRows();
        r.alterRow(0, 0, 5);
        r.dropRow();
        due(r.judge(), 1);
    }

    @Says("the latest run() that was not refused")
    static void promise37_aRefusedRunIsNoRun() {
        PeaceRing r = threeRows();
        r.alterRow(1, 0, 7);
        all(of(r.run(0, 15, 1, 0), r.run(0, 3, 5, 0), r.judge(), r.many(10)), NONE, BAD, 2, 3);
        all(of(r.run(3, 3, 1, 2), r.judge(), r.many(10)), NONE, 0, 0);
    }

    @Says("NONE: there was none yet.")
    static void promise37_noRunYet() {
        refused(NONE, FRESH, r -> r.judge());
        PeaceRing r = lane();
        all(of(r.run(0, 15, 1, 0), r.run(0, 3, 0, 0), r.judge()), NONE, BAD, NONE);
    }

    // ---- 38: gap

    private static PeaceRing stoneAt(int cell) {
        PeaceRing r = new PeaceRing();
        r.stone(cell, 1);
        return r;
    }

    @Says({"GAP of a STONE.", "GAP of a STONE: the longest row of CLOCKS (round midnight, too; 24 at most) at which none of all POSTS sees its CELL."})
    static void promise38_noneToTwentyFour() {
        PeaceRing r = stoneAt(0);
        due(r.gap(0), 24);
        r.post(99, 4, 0, 23);
        due(r.gap(0), 24);
        r.post(0, 0, 12, 12);
        due(r.gap(0), 23);
        r.post(0, 0, 13, 11);
        due(r.gap(0), 0);
    }

    @Says("(round midnight, too; 24 at most)")
    static void promise38_roundMidnight() {
        for (int from = 0; from < 24; from++) {
            for (int length : of(1, 10, 23)) {
                PeaceRing r = stoneAt(0);
                r.post(0, 0, from, (from + length - 1) % 24);
                due(r.gap(0), 24 - length);
            }
        }
        PeaceRing r = stoneAt(0);
        r.post(0, 0, 3, 5);
        r.post(0, 0, 16, 20);
        // 6 to 15 are ten, 21 to 2 are six.
        due(r.gap(0), 10);
        r.post(0, 0, 10, 10);
        due(r.gap(0), 6);
    }

    @Says("BAD.")
    static void promise38_noSuchStone() {
        refused(BAD, RICH, r -> r.gap(-1), r -> r.gap(2), r -> r.gap(LOW), r -> r.gap(HIGH));
        refused(BAD, FRESH, r -> r.gap(0));
    }

    // ---- 39: watch

    @Says({"LEAST WATCH, as bits.", "A WATCH is a set of POSTS.",
        "LEAST WATCH: the fewest POSTS that see CELLS of all STONES at all CLOCKS at which all POSTS together do;"})
    static void promise39_fewest() {
        PeaceRing r = stoneAt(55);
        r.stone(57, 1);
        due(r.watch(), 0);
        r.post(0, 4, 0, 23);
        due(r.watch(), 0);
        r.post(55, 0, 0, 11);
        r.post(55, 0, 12, 23);
        due(r.watch(), 6);
        r.post(57, 0, 5, 5);
        due(r.watch(), 14);
        r.post(56, 1, 0, 12);
        // CELL 57 is seen at 0 to 12 now, and by POST 4 alone; of 55 it leaves 13 to 23.
        due(r.watch(), 20);
        r.post(56, 1, 13, 12);
        due(r.watch(), 32);
    }

    @Says({"at all CLOCKS at which all POSTS together do;", "of several the least bits."})
    static void promise39_leastBits() {
        PeaceRing r = stoneAt(0);
        for (int p = 0; p < 8; p++) r.post(0, 0, 20, 3);
        due(r.watch(), 1);
        r = stoneAt(0);
        r.post(0, 0, 0, 9);
        r.post(0, 0, 5, 15);
        r.post(0, 0, 0, 9);
        r.post(0, 0, 5, 15);
        due(r.watch(), 3);
        r = stoneAt(0);
        for (int p = 0; p < 8; p++) r.post(0, 0, 3 * p, 3 * p + 2);
        due(r.watch(), 255);
    }

    @Says("LEAST WATCH, as bits.")
    static void promise39_emptyWatch() {
        all(of(new PeaceRing().watch(), stoneAt(0).watch()), 0, 0);
        PeaceRing r = new PeaceRing();
        r.post(0, 4, 0, 23);
        due(r.watch(), 0);
    }
}
