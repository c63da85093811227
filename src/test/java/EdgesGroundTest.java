/** Promises 1 to 10 at their edges. */
public final class EdgesGroundTest extends Edges {
    public static void main(String[] args) throws Exception {
        runAll(EdgesGroundTest.class);
    }

    // ---- 1: a new object

    @Says({"HOUR 0", "NOW is one (0 at first)"})
    static void promise1_nowIsNought() {
        PeaceRing other = settled();
        PeaceRing r = new PeaceRing();
        all(of(r.many(0), r.sight(1, 0, 0), r.sight(1, 1, 0), other.many(0)), 0, 0, BAD, 30);
    }

    @Says({"all lanes", "each 0 lane (at first)"})
    static void promise1_everyCellIsALane() {
        PeaceRing r = new PeaceRing();
        for (int cell = 0; cell < 100; cell++) due(r.ground(cell, 3), 0);
    }

    @Says("nothing is there")
    static void promise1_everythingIsEmpty() {
        PeaceRing r = new PeaceRing();
        for (int what = 1; what < 14; what++) due(r.many(what), 0);
        all(of(r.personOf(0, 0), r.gap(0), r.version(0, 0), r.counts(0, 0, 0), r.taking(0, 0), r.heard(0, 0), r.who(0)),
            BAD, BAD, BAD, BAD, BAD, BAD, BAD);
        all(of(r.row(0, 0), r.dropRow(), r.judge(), r.trace(0), r.strike(0), r.strike(1), r.strike(2)),
            -9, NONE, NONE, NONE, NONE, NONE, NONE);
        all(of(r.within(55, 0), r.degree(55, 0), r.sees(55, 0), r.watch(), r.deal(0, 0, 7)), 0, 0, 0, 0, 0);
        due(r.read(0), 0);
        due(r.version(0, 1), 0);
    }

    @Says("nothing is kept.")
    static void promise1_nothingComesAgain() {
        due(new PeaceRing().again(), NONE);
    }

    @Says({"Answers below 0, where not told otherwise, are refusals; such a call changes nothing",
        "BAD (-1) there is no such thing, or a number is not as told; FULL (-2); NONE (-3); STATE (-4); and what the host refuses:"})
    static void promise1_refusalsByTheirNumbers() {
        all(of(PeaceRing.BAD, PeaceRing.FULL, PeaceRing.NONE, PeaceRing.STATE), -1, -2, -3, -4);
        refused(PeaceRing.BAD, FRESH, r -> r.hours(0), r -> r.person(-1, 1), r -> r.personOf(0, 0));
        refused(PeaceRing.FULL, EdgesGroundTest::sixteen, r -> r.person(0, 1));
        refused(PeaceRing.NONE, FRESH, r -> r.again(), r -> r.strike(0), r -> r.dropRow());
        refused(PeaceRing.STATE, RICH, r -> r.seek(1), r -> r.swear(0));
    }

    // ---- 2: hours

    @Says("NOW goes n (1 to 100) HOURS on: it.")
    static void promise2_oneAndAHundredHours() {
        PeaceRing r = new PeaceRing();
        all(of(r.hours(1), r.many(0), r.hours(100), r.many(0), r.hours(99)), 1, 1, 101, 101, 200);
    }

    @Says("BAD: n isn't as told")
    static void promise2_tooFewOrTooManyHours() {
        refused(BAD, RICH, r -> r.hours(0), r -> r.hours(101), r -> r.hours(-1), r -> r.hours(LOW), r -> r.hours(HIGH));
    }

    @Says({"STATE: it would be above 9999.", "HOURS are 0 to 9999"})
    static void promise2_theLastHour() {
        PeaceRing r = at(9899);
        all(of(r.hours(100), r.many(0)), 9999, 9999);
        refused(STATE, () -> at(9900), s -> s.hours(100));
        refused(STATE, () -> at(9998), s -> s.hours(2), s -> s.hours(100));
        refused(STATE, () -> at(9999), s -> s.hours(1), s -> s.hours(100));
        due(at(9998).hours(1), 9999);
    }

    @Says("STATE: it would be above 9999.")
    static void promise2_refusedHoursLetNobodyRun() {
        refused(STATE, () -> {
            PeaceRing r = at(9990);
            r.person(0, 1);
            r.aim(0, 9);
            return r;
        }, r -> r.hours(10));
    }

    @Says("of several the first named: BAD (-1)")
    static void promise2_badAheadOfState() {
        refused(BAD, () -> at(9999), r -> r.hours(0), r -> r.hours(101), r -> r.hours(HIGH));
    }

    @Says({"RUNNERS: PERSONS with an AIM (a CELL).",
        "As NOW goes on by an HOUR, each of them by numbers goes up to LEGS STEPS",
        "LEGS (1 to 4: STEPS in an HOUR)"})
    static void promise2_runnersGoUpToLegsSteps() {
        PeaceRing r = new PeaceRing();
        for (int legs = 1; legs <= 4; legs++) r.person(20 * legs, legs);
        r.person(0, 4);
        for (int p = 0; p < 4; p++) r.aim(p, 20 * (p + 1) + 9);
        r.hours(1);
        all(of(r.personOf(0, 0), r.personOf(1, 0), r.personOf(2, 0), r.personOf(3, 0), r.personOf(4, 0)), 21, 42, 63, 84, 0);
        r.hours(2);
        all(of(r.personOf(0, 0), r.personOf(1, 0), r.personOf(2, 0), r.personOf(3, 0)), 23, 46, 69, 89);
        all(of(r.many(7), r.personOf(2, 6), r.personOf(3, 6), r.personOf(1, 6)), 2, 1, 1, 0);
    }

    @Says("each to the CELL from which the WAY to AIM is one less, of several the least")
    static void promise2_runnersTakeTheLeastCell() {
        int[][] fromAimThen = {{55, 44, 45}, {55, 46, 45}, {55, 64, 54}, {55, 66, 56}, {55, 45, 45}, {55, 65, 65}, {9, 10, 8}};
        for (int[] told : fromAimThen) {
            PeaceRing r = new PeaceRing();
            r.person(told[0], 1);
            r.aim(0, told[1]);
            r.hours(1);
            due(r.personOf(0, 0), told[2]);
        }
        PeaceRing round = new PeaceRing();
        round.ground(45, 1);
        round.person(55, 1);
        round.aim(0, 44);
        round.hours(1);
        due(round.personOf(0, 0), 54);
    }

    @Says("(no STEP, if there is no WAY)")
    static void promise2_noWayNoStep() {
        PeaceRing r = new PeaceRing();
        r.person(0, 4);
        r.person(55, 4);
        r.ground(1, 1);
        r.ground(10, 1);
        r.ground(59, 1);
        r.aim(0, 99);
        r.aim(1, 59);
        r.hours(100);
        // Shut in, or with a wall as AIM: a RUNNER still, where one was, and neither MET nor there.
        all(of(r.personOf(0, 0), r.personOf(0, 4), r.personOf(0, 5), r.personOf(0, 6)), 0, 99, NONE, 0);
        all(of(r.personOf(1, 0), r.personOf(1, 4), r.personOf(1, 6), r.many(7)), 55, 59, 0, 2);
        r.ground(59, 2);
        r.hours(1);
        all(of(r.personOf(1, 0), r.personOf(1, 6), r.many(7)), 59, 1, 1);
    }

    @Says("A CELL to which they come by a STEP, and which a POST sees at that HOUR (the new NOW)")
    static void promise2_metAtTheNewHour() {
        for (int clock = 0; clock < 24; clock++) {
            PeaceRing r = new PeaceRing();
            r.hours(23);
            r.person(0, 1);
            r.post(1, 0, clock, clock);
            r.aim(0, 5);
            r.hours(1);
            // NOW goes from 23 to 24: the CLOCK is 0 there.
            due(r.personOf(0, 5), clock == 0 ? 0 : NONE);
            due(r.many(7), clock == 0 ? 0 : 1);
        }
    }

    @Says("A CELL to which they come by a STEP")
    static void promise2_notMetWhereOneStands() {
        PeaceRing r = new PeaceRing();
        r.person(0, 1);
        r.person(0, 1);
        r.post(0, 0, 0, 23);
        r.ground(19, 1);
        r.aim(0, 2);
        r.aim(1, 19);
        r.hours(1);
        all(of(r.personOf(0, 0), r.personOf(0, 5), r.personOf(1, 0), r.personOf(1, 5), r.many(7)), 1, NONE, 0, NONE, 2);
    }

    @Says("they are MET there (by the least POST), and are RUNNERS no more")
    static void promise2_theLeastPostMeets() {
        PeaceRing r = new PeaceRing();
        r.person(0, 4);
        r.post(9, 0, 0, 23);
        r.post(2, 0, 0, 23);
        r.post(12, 1, 0, 23);
        r.aim(0, 4);
        r.hours(1);
        // Two STEPS of four: they stay where they are MET, and have REACHED nothing.
        all(of(r.personOf(0, 0), r.personOf(0, 5), r.personOf(0, 4), r.personOf(0, 6), r.many(7)), 2, 1, NONE, 0, 0);
        r.hours(1);
        due(r.personOf(0, 0), 2);
    }

    @Says("else, at AIM: they REACHED it, and are RUNNERS no more.")
    static void promise2_metAtAimIsNotReached() {
        PeaceRing r = new PeaceRing();
        r.person(0, 4);
        r.person(10, 4);
        r.post(2, 0, 0, 23);
        r.aim(0, 2);
        r.aim(1, 12);
        r.hours(1);
        all(of(r.personOf(0, 0), r.personOf(0, 5), r.personOf(0, 6), r.personOf(0, 4)), 2, 0, 0, NONE);
        all(of(r.personOf(1, 0), r.personOf(1, 5), r.personOf(1, 6), r.personOf(1, 4), r.many(7)), 12, NONE, 1, NONE, 0);
    }

    @Says({"As NOW goes on by an HOUR (behind RUNNERS), who HEARD a BELL ahead of that HOUR",
        "tells it all who are at their CELL: they HEAR it at that HOUR."})
    static void promise2_bellsAreToldBehindRunners() {
        PeaceRing r = new PeaceRing();
        r.person(0, 1);
        r.person(1, 1);
        r.person(1, 1);
        r.person(0, 1);
        r.bell(0, 0);
        r.aim(0, 1);
        r.aim(1, 11);
        r.hours(1);
        // 0 comes to CELL 1 and tells 2 there; 1 has left it by then; 3 was there as it was rung.
        all(of(r.heard(0, 0), r.heard(1, 0), r.heard(2, 0), r.heard(3, 0)), 0, NONE, 1, 0);
    }

    @Says("who HEARD a BELL ahead of that HOUR")
    static void promise2_whatIsHeardNowIsToldAnHourLater() {
        PeaceRing r = new PeaceRing();
        r.person(0, 1);
        r.hours(4);
        r.bell(0, 0);
        r.person(0, 1);
        r.move(0, 9);
        due(r.heard(1, 0), NONE);
        r.hours(1);
        all(of(r.heard(0, 0), r.heard(1, 0)), 4, NONE);
        r.move(0, 0);
        due(r.heard(1, 0), NONE);
        r.hours(100);
        all(of(r.heard(0, 0), r.heard(1, 0)), 4, 6);
    }

    // ---- 3: ground

    @Says({"A CELL is 0 to 3: what it was.", "THE GROUND has 10 by 10 CELLS, 0 to 99 row by row",
        "each 0 lane (at first), 1 wall, 2 house, 3 church."})
    static void promise3_firstAndLastCellBecomeAll() {
        PeaceRing r = new PeaceRing();
        for (int cell : of(0, 99)) {
            all(of(r.ground(cell, 3), r.ground(cell, 2), r.ground(cell, 1), r.ground(cell, 1), r.ground(cell, 0), r.ground(cell, 0)),
                0, 3, 2, 1, 1, 0);
        }
        r.stone(55, 5);
        for (int is = 0; is < 4; is++) {
            r.ground(56, is);
            due(r.degree(56, 0), of(5, 0, 6, 8)[is]);
        }
    }

    @Says("BAD: there is no such CELL, is")
    static void promise3_noSuchCellOrIs() {
        refused(BAD, RICH, r -> r.ground(-1, 0), r -> r.ground(100, 0), r -> r.ground(LOW, 0), r -> r.ground(HIGH, 0),
            r -> r.ground(1, -1), r -> r.ground(1, 4), r -> r.ground(1, LOW), r -> r.ground(1, HIGH));
    }

    @Says("STATE: a wall, where a PERSON, STONE, POST is.")
    static void promise3_noWallWhereSomethingIs() {
        // 55: PERSONS and a STONE, 22: a STONE, 33: a POST, 59: a PERSON, 99: a PERSON who is taken and a POST.
        refused(STATE, RICH, r -> r.ground(55, 1), r -> r.ground(22, 1), r -> r.ground(33, 1), r -> r.ground(59, 1),
            r -> r.ground(99, 1));
        PeaceRing r = rich();
        all(of(r.ground(55, 2), r.ground(22, 3), r.ground(33, 0), r.ground(59, 0), r.ground(99, 3)), 0, 0, 0, 0, 0);
    }

    @Says("STATE: a wall, where a PERSON, STONE, POST is.")
    static void promise3_otherThingsDoNotHinderAWall() {
        PeaceRing r = new PeaceRing();
        r.person(5, 1);
        r.aim(0, 6);
        r.bell(7, 1);
        r.sight(8, 0, 0);
        r.deed(0, 0, -1, 0, 9, 0);
        all(of(r.ground(6, 1), r.ground(7, 1), r.ground(8, 1), r.ground(9, 1), r.ground(5, 1)), 0, 0, 0, 0, STATE);
        r.move(0, 4);
        due(r.ground(5, 1), 0);
    }

    @Says("of several the first named: BAD (-1)")
    static void promise3_badAheadOfState() {
        refused(BAD, RICH, r -> r.ground(55, 4), r -> r.ground(55, -1));
    }

    // ---- 4: between

    @Says({"WAY (what = 0), FAR (1) of two CELLS.", "FAR: by how many rows and columns they differ, together."})
    static void promise4_farAcrossTheGround() {
        PeaceRing r = new PeaceRing();
        r.ground(55, 1);
        all(of(r.between(0, 99, 1), r.between(99, 0, 1), r.between(9, 90, 1), r.between(0, 9, 1), r.between(9, 10, 1)),
            18, 18, 18, 9, 10);
        all(of(r.between(55, 55, 1), r.between(55, 45, 1), r.between(0, 99, 0)), 0, 1, 18);
    }

    @Says({"A STEP goes to a CELL above, beside or below that is no wall.",
        "WAY of two CELLS: the fewest STEPS from one to the other"})
    static void promise4_stepsDoNotWrapAtTheRim() {
        PeaceRing r = new PeaceRing();
        all(of(r.between(9, 10, 0), r.between(19, 20, 0), r.between(0, 90, 0), r.between(4, 94, 0), r.between(0, 11, 0)),
            10, 10, 9, 9, 2);
        all(of(r.between(55, 45, 0), r.between(55, 54, 0), r.between(55, 56, 0), r.between(55, 65, 0)), 1, 1, 1, 1);
    }

    @Says({"(NONE: there is none, or one is a wall;", "NONE."})
    static void promise4_noWay() {
        Made shut = () -> {
            PeaceRing r = new PeaceRing();
            r.ground(1, 1);
            r.ground(10, 1);
            return r;
        };
        refused(NONE, shut, r -> r.between(0, 99, 0), r -> r.between(99, 0, 0), r -> r.between(1, 99, 0), r -> r.between(99, 1, 0),
            r -> r.between(1, 10, 0), r -> r.between(1, 1, 0));
        PeaceRing r = shut.ring();
        all(of(r.between(0, 99, 1), r.between(1, 10, 1)), 18, 2);
    }

    @Says("0 to itself)")
    static void promise4_noStepToItself() {
        PeaceRing r = new PeaceRing();
        for (int cell = 0; cell < 100; cell++) due(r.between(cell, cell, 0), 0);
        r.ground(1, 1);
        r.ground(10, 1);
        due(r.between(0, 0, 0), 0);
    }

    @Says("BAD: there is no such CELL (either), what")
    static void promise4_noSuchCellOrWhat() {
        refused(BAD, RICH, r -> r.between(-1, 5, 0), r -> r.between(100, 5, 0), r -> r.between(5, -1, 1), r -> r.between(5, 100, 1),
            r -> r.between(5, 5, -1), r -> r.between(5, 5, 2), r -> r.between(LOW, HIGH, 0), r -> r.between(0, 5, 2));
    }

    // ---- 5: person

    @Says({"A PERSON (free): their number.",
        "PERSONS, 16 at most, numbered as they come: LEGS (1 to 4: STEPS in an HOUR), at a CELL that is no wall."})
    static void promise5_sixteenAreNumbered() {
        PeaceRing r = new PeaceRing();
        for (int p = 0; p < 16; p++) due(r.person(p == 15 ? 99 : p, 1 + p % 4), p);
        all(of(r.many(1), r.personOf(15, 0), r.personOf(15, 1), r.personOf(15, 2), r.personOf(0, 1)), 16, 99, 4, 0, 1);
    }

    @Says("BAD: there is no such CELL, or legs isn't as told")
    static void promise5_noSuchCellOrLegs() {
        refused(BAD, RICH, r -> r.person(-1, 1), r -> r.person(100, 1), r -> r.person(LOW, 1), r -> r.person(5, 0),
            r -> r.person(5, 5), r -> r.person(5, -1), r -> r.person(5, HIGH), r -> r.person(50, 0), r -> r.person(50, 5));
    }

    @Says("STATE: it is a wall")
    static void promise5_notOnAWall() {
        refused(STATE, RICH, r -> r.person(50, 1), r -> r.person(0, 4));
        due(rich().person(65, 1), 9);
    }

    static PeaceRing sixteen() {
        PeaceRing r = new PeaceRing();
        r.ground(50, 1);
        for (int p = 0; p < 16; p++) r.person(5, 1);
        return r;
    }

    @Says({"FULL.", "PERSONS, 16 at most"})
    static void promise5_noSeventeenth() {
        refused(FULL, EdgesGroundTest::sixteen, r -> r.person(5, 1), r -> r.person(6, 4));
    }

    @Says("of several the first named")
    static void promise5_badThenStateThenFull() {
        refused(BAD, EdgesGroundTest::sixteen, r -> r.person(50, 5), r -> r.person(5, 0), r -> r.person(100, 1));
        refused(STATE, EdgesGroundTest::sixteen, r -> r.person(50, 1));
    }

    // ---- 6: move

    @Says("A PERSON goes to a CELL at once, and has no AIM: where they were.")
    static void promise6_movesAndAimsNoMore() {
        PeaceRing r = rich();
        all(of(r.personOf(1, 4), r.move(1, 99), r.personOf(1, 0), r.personOf(1, 4), r.move(1, 99)), 90, 55, 99, NONE, 99);
        // To where they are, too; and over walls.
        all(of(r.aim(6, 90), r.move(6, 55), r.personOf(6, 4), r.move(6, 1), r.personOf(6, 0)), 50, 55, NONE, 55, 1);
    }

    @Says("A PERSON goes to a CELL at once")
    static void promise6_nobodyIsMetOnMoving() {
        PeaceRing r = new PeaceRing();
        r.person(0, 1);
        r.post(9, 0, 0, 23);
        r.aim(0, 9);
        r.move(0, 9);
        all(of(r.personOf(0, 5), r.personOf(0, 6), r.many(7)), NONE, 0, 0);
    }

    @Says("BAD: there is no such PERSON, CELL")
    static void promise6_noSuchPersonOrCell() {
        refused(BAD, RICH, r -> r.move(-1, 5), r -> r.move(9, 5), r -> r.move(LOW, 5), r -> r.move(HIGH, 5), r -> r.move(1, -1),
            r -> r.move(1, 100), r -> r.move(1, HIGH), r -> r.move(9, 50));
    }

    @Says("STATE: it is a wall.")
    static void promise6_notOntoAWall() {
        refused(STATE, RICH, r -> r.move(1, 50), r -> r.move(0, 0));
    }

    // ---- 7: personOf

    @Says("Of a PERSON: what = 0 CELL, 1 LEGS, 2 STATE,")
    static void promise7_cellLegsAndState() {
        PeaceRing r = rich();
        int[] states = {0, 1, 2, 3, 4, 6, 0, 0, 5};
        for (int p = 0; p < 9; p++) due(r.personOf(p, 2), states[p]);
        all(of(r.personOf(7, 0), r.personOf(7, 1), r.personOf(8, 0), r.personOf(8, 1)), 59, 4, 99, 2);
    }

    @Says("3 from which HOUR they are so (0 of a free one)")
    static void promise7_sinceWhen() {
        PeaceRing r = rich();
        all(of(r.personOf(0, 3), r.personOf(1, 3), r.personOf(5, 3), r.personOf(8, 3)), 0, 0, 30, 30);
        r.hours(2);
        r.person(55, 1);
        all(of(r.swear(1), r.personOf(1, 3), r.seek(0), r.personOf(0, 3), r.personOf(9, 3)), 1, 32, 1, 32, 0);
    }

    @Says("4 AIM (NONE)")
    static void promise7_noAim() {
        PeaceRing r = rich();
        all(of(r.personOf(0, 4), r.personOf(1, 4), r.personOf(6, 4), r.personOf(7, 4)), NONE, 90, 50, NONE);
        all(of(r.aim(7, 1), r.personOf(7, 4)), NONE, 1);
    }

    @Says("5 by which POST they were MET latest (NONE)")
    static void promise7_metByTheLatestPost() {
        PeaceRing r = new PeaceRing();
        r.person(0, 1);
        r.post(5, 0, 0, 23);
        r.post(1, 0, 0, 23);
        r.post(2, 0, 0, 23);
        due(r.personOf(0, 5), NONE);
        int[] met = {1, 2};
        for (int i = 0; i < 2; i++) {
            r.aim(0, 9);
            r.hours(1);
            due(r.personOf(0, 5), met[i]);
        }
        // It stays: behind a move, a new AIM, a run that none sees.
        r.move(0, 50);
        r.aim(0, 51);
        r.hours(1);
        all(of(r.personOf(0, 6), r.personOf(0, 5)), 1, 2);
    }

    @Says("6 1 if they REACHED their latest AIM, else 0")
    static void promise7_reachedTheLatestAim() {
        PeaceRing r = new PeaceRing();
        r.person(0, 1);
        due(r.personOf(0, 6), 0);
        r.aim(0, 1);
        due(r.personOf(0, 6), 0);
        r.hours(1);
        due(r.personOf(0, 6), 1);
        r.hours(5);
        due(r.personOf(0, 6), 1);
        // Refused, and so no AIM at all; then one that isn't REACHED yet.
        all(of(r.aim(0, 1), r.personOf(0, 6), r.aim(0, 9), r.personOf(0, 6)), STATE, 1, NONE, 0);
    }

    @Says("7 PORT (NONE: none told)")
    static void promise7_port() {
        PeaceRing r = rich();
        for (int p = 0; p < 9; p++) due(r.personOf(p, 7), p == 3 ? 1 : NONE);
        all(of(r.leave(2, 0), r.personOf(2, 7)), 7, 0);
    }

    @Says("8 what they OWE in all")
    static void promise7_owesInAll() {
        PeaceRing r = new PeaceRing();
        r.stone(55, 2);
        for (int p = 0; p < 4; p++) r.person(55, 1);
        due(r.personOf(0, 8), 0);
        for (int p = 1; p < 4; p++) {
            r.take(0, p);
            all(of(r.personOf(0, 8), r.personOf(p, 8)), 20 * p, 0);
        }
    }

    @Says("9 how many DEEDS.")
    static void promise7_howManyDeeds() {
        PeaceRing r = new PeaceRing();
        r.person(0, 1);
        r.person(0, 1);
        due(r.personOf(0, 9), 0);
        // DEEDS that one did, KNOWN or not; not those against one.
        for (int d = 0; d < 24; d++) r.deed(d < 20 ? 0 : 1, 0, 1, 0, 0, 9999);
        all(of(r.personOf(0, 9), r.personOf(1, 9)), 20, 4);
    }

    @Says("BAD: there is none such, another what.")
    static void promise7_noSuchPersonOrWhat() {
        refused(BAD, RICH, r -> r.personOf(-1, 0), r -> r.personOf(9, 0), r -> r.personOf(LOW, 0), r -> r.personOf(HIGH, 0),
            r -> r.personOf(0, -1), r -> r.personOf(0, 10), r -> r.personOf(0, LOW), r -> r.personOf(0, HIGH));
    }

    // ---- 8: stone

    @Says({"A STONE: its number.", "STONES, 6 at most, numbered as they come: at a CELL, of a DEGREE (1 to 9)."})
    static void promise8_sixAreNumbered() {
        PeaceRing r = new PeaceRing();
        int[] cells = {0, 99, 9, 90, 55, 55};
        int[] degrees = {1, 9, 2, 8, 3, 7};
        for (int s = 0; s < 6; s++) due(r.stone(cells[s], degrees[s]), s);
        all(of(r.degree(0, 0), r.degree(99, 0), r.degree(55, 0), r.within(55, 0), r.many(2)), 1, 9, 7, 48, 6);
    }

    @Says("BAD: there is no such CELL, or degree isn't as told")
    static void promise8_noSuchCellOrDegree() {
        refused(BAD, RICH, r -> r.stone(-1, 1), r -> r.stone(100, 1), r -> r.stone(HIGH, 1), r -> r.stone(5, 0),
            r -> r.stone(5, 10), r -> r.stone(5, -1), r -> r.stone(5, LOW), r -> r.stone(50, 10));
    }

    @Says("STATE: it is a wall")
    static void promise8_notOnAWall() {
        refused(STATE, RICH, r -> r.stone(50, 1), r -> r.stone(0, 9));
        due(rich().stone(56, 1), 2);
    }

    static PeaceRing sixStones() {
        PeaceRing r = new PeaceRing();
        r.ground(50, 1);
        for (int s = 0; s < 6; s++) r.stone(10 * s + 5, 1 + s);
        return r;
    }

    @Says({"FULL.", "STONES, 6 at most"})
    static void promise8_noSeventh() {
        refused(FULL, EdgesGroundTest::sixStones, r -> r.stone(0, 1), r -> r.stone(99, 9));
    }

    @Says("of several the first named")
    static void promise8_badThenStateThenFull() {
        refused(BAD, EdgesGroundTest::sixStones, r -> r.stone(50, 0), r -> r.stone(1, 10), r -> r.stone(-1, 1));
        refused(STATE, EdgesGroundTest::sixStones, r -> r.stone(50, 1));
    }

    // ---- 9: within

    @Says({"STONES within which a CELL is at an HOUR, as bits.",
        "A CELL is within a STONE, if it is MILE at most from it: by WAY (measure lanes;"})
    static void promise9_mileAtMost() {
        PeaceRing r = sixStones();
        // STONES at 5, 15, .., 55, MILE 3.
        all(of(r.within(5, 0), r.within(25, 0), r.within(35, 9999), r.within(85, 0), r.within(95, 0), r.within(8, 0), r.within(9, 0)),
            15, 63, 63, 32, 0, 1, 0);
    }

    @Says({"MILE at most from it", "(of mile 0 to 18)"})
    static void promise9_leastAndGreatestMile() {
        PeaceRing r = by("mile 0;");
        r.stone(0, 1);
        all(of(r.within(0, 0), r.within(1, 0), r.within(10, 0)), 1, 0, 0);
        Check.read(r, 0, "mile 17;");
        all(of(r.within(98, 0), r.within(89, 0), r.within(99, 0)), 1, 1, 0);
        Check.read(r, 0, "mile 18;");
        due(r.within(99, 0), 1);
    }

    @Says({"(measure lanes; not, if there is none)", "or FAR (straight)."})
    static void promise9_walls() {
        PeaceRing r = by("mile 18;");
        r.stone(0, 1);
        r.ground(1, 1);
        r.ground(10, 1);
        // Shut in: no WAY, so not within, however great MILE is; its own CELL is.
        all(of(r.within(0, 0), r.within(1, 0), r.within(2, 0), r.within(11, 0)), 1, 0, 0, 0);
        Check.read(r, 1, "measure straight; mile 2;");
        all(of(r.within(0, 0), r.within(1, 0), r.within(2, 0), r.within(11, 0), r.within(3, 0)), 1, 1, 1, 1, 0);
    }

    @Says("STONES within which a CELL is at an HOUR")
    static void promise9_byTheHour() {
        PeaceRing r = by("mile 1;");
        r.stone(0, 1);
        r.hours(10);
        Check.read(r, 0, "mile 2;");
        r.hours(10);
        r.strike(0);
        all(of(r.within(2, 9), r.within(2, 10), r.within(2, 19), r.within(3, 19), r.within(3, 20), r.within(3, 9999)), 0, 1, 1, 0, 1, 1);
    }

    @Says("BAD: there is no such CELL, HOUR.")
    static void promise9_noSuchCellOrHour() {
        refused(BAD, RICH, r -> r.within(-1, 0), r -> r.within(100, 0), r -> r.within(LOW, 0), r -> r.within(5, -1),
            r -> r.within(5, 10000), r -> r.within(5, LOW), r -> r.within(5, HIGH));
    }

    // ---- 10: degree

    @Says({"DEGREE of a CELL at an HOUR.", "DEGREE of a CELL: the greatest one of the STONES within which it is",
        "1 more in a house, 3 more in a church"})
    static void promise10_greatestAndMore() {
        PeaceRing r = new PeaceRing();
        r.stone(50, 4);
        r.stone(53, 9);
        r.stone(50, 1);
        all(of(r.degree(50, 0), r.degree(40, 0), r.degree(53, 0), r.degree(56, 0), r.degree(9, 0)), 9, 4, 9, 9, 0);
        r.ground(53, 2);
        r.ground(40, 2);
        r.ground(56, 3);
        all(of(r.degree(53, 0), r.degree(40, 0), r.degree(56, 0), r.degree(56, 9999)), 10, 5, 12, 12);
    }

    @Says({"0 if it is in none.", "INSIDE: it is above 0."})
    static void promise10_noneInAChurchOutside() {
        PeaceRing r = new PeaceRing();
        r.ground(99, 3);
        r.ground(98, 2);
        r.person(99, 1);
        all(of(r.degree(99, 0), r.degree(98, 0), r.safe(0, 99, 0, 0)), 0, 0, 0);
        r.stone(0, 1);
        all(of(r.degree(99, 0), r.degree(0, 0), r.safe(0, 0, 0, 0), r.safe(0, 99, 0, 0)), 0, 1, 1, 0);
    }

    @Says("BAD likewise.")
    static void promise10_noSuchCellOrHour() {
        refused(BAD, RICH, r -> r.degree(-1, 0), r -> r.degree(100, 0), r -> r.degree(HIGH, 0), r -> r.degree(5, -1),
            r -> r.degree(5, 10000), r -> r.degree(5, LOW), r -> r.degree(5, HIGH));
    }
}
