/** Promises 22 to 29 at their edges. */
public final class EdgesStatesTest extends Edges {
    public static void main(String[] args) throws Exception {
        runAll(EdgesStatesTest.class);
    }

    /** So many PERSONS at a STONE of DEGREE 2, by a TEXT. */
    private static PeaceRing inside(int persons, String text) {
        PeaceRing r = by(text);
        r.stone(55, 2);
        for (int p = 0; p < persons; p++) r.person(55, 1);
        return r;
    }

    // ---- 22: seek

    @Says({"1.", "seek(): a free one who is SAFE where they are NOW, as KNOWN NOW, is safe from NOW on.",
        "STATES of a PERSON: 0 free, 1 safe, 2 sworn, 3 leaving, 4 dweller, 5 taken, 6 broken (taken unlawfully)."})
    static void promise22_fromNowOn() {
        PeaceRing r = inside(1, "");
        r.hours(7);
        all(of(r.seek(0), r.personOf(0, 2), r.personOf(0, 3)), 1, 1, 7);
    }

    @Says("BAD: there is no such PERSON")
    static void promise22_noSuchPerson() {
        refused(BAD, RICH, r -> r.seek(-1), r -> r.seek(9), r -> r.seek(LOW), r -> r.seek(HIGH));
        refused(BAD, FRESH, r -> r.seek(0));
    }

    @Says("STATE: they aren't free, or SAFE.")
    static void promise22_notFree() {
        refused(STATE, RICH, r -> r.seek(1), r -> r.seek(2), r -> r.seek(3), r -> r.seek(4), r -> r.seek(5), r -> r.seek(8));
    }

    @Says({"STATE: they aren't free, or SAFE.", "a free one who is SAFE where they are NOW, as KNOWN NOW"})
    static void promise22_notSafe() {
        // PERSON 6 has a DEED that doesn't COUNT any more; one at 99 isn't INSIDE.
        refused(STATE, RICH, r -> r.seek(6));
        refused(STATE, () -> {
            PeaceRing r = inside(1, "");
            r.move(0, 99);
            return r;
        }, r -> r.seek(0));
        PeaceRing r = inside(2, "theft fail;");
        r.deed(0, 0, -1, 0, 0, 1);
        r.deed(1, 0, -1, 0, 0, 1);
        due(r.seek(0), 1);
        r.hours(1);
        due(r.seek(1), STATE);
    }

    // ---- 23: swear

    /** PERSON 0 is safe from 5 on; FORTY is so; NOW is so many HOURS behind. */
    private static PeaceRing safeFor(int hours, String text) {
        PeaceRing r = inside(1, text);
        r.hours(5);
        r.seek(0);
        Check.pass(r, hours);
        return r;
    }

    @Says({"1.", "swear(): a safe one, 24 times FORTY HOURS at most behind that, is sworn."})
    static void promise23_fortyDaysAtMost() {
        for (int forty : of(0, 1, 2)) {
            String text = "forty " + forty + ";";
            PeaceRing r = safeFor(24 * forty, text);
            all(of(r.swear(0), r.personOf(0, 2), r.personOf(0, 3)), 1, 2, 5 + 24 * forty);
            refused(STATE, () -> safeFor(24 * forty + 1, text), s -> s.swear(0));
        }
        due(safeFor(960, "").swear(0), 1);
        refused(STATE, () -> safeFor(961, ""), r -> r.swear(0));
        due(safeFor(9994, "forty 999;").swear(0), 1);
    }

    @Says("FORTY DAYS (of 24 HOURS, as in force NOW) are over.")
    static void promise23_asInForceNow() {
        PeaceRing r = safeFor(30, "forty 1;");
        due(r.swear(0), STATE);
        Check.read(r, 1, "forty 2;");
        due(r.swear(0), 1);
        r = safeFor(30, "forty 2;");
        Check.read(r, 0, "forty 1;");
        due(r.swear(0), STATE);
    }

    @Says("BAD;")
    static void promise23_noSuchPerson() {
        refused(BAD, RICH, r -> r.swear(-1), r -> r.swear(9), r -> r.swear(LOW), r -> r.swear(HIGH));
    }

    @Says("STATE: they aren't safe, or")
    static void promise23_notSafe() {
        refused(STATE, RICH, r -> r.swear(0), r -> r.swear(2), r -> r.swear(3), r -> r.swear(4), r -> r.swear(5), r -> r.swear(8));
        // One who is safe may swear anywhere, whatever one did meanwhile.
        PeaceRing r = safeFor(1, "theft fail;");
        r.deed(0, 0, -1, 0, 0, 0);
        r.move(0, 99);
        due(r.swear(0), 1);
    }

    // ---- 24: leave

    /** PERSON 0 is sworn at an HOUR; PORT 3 as told. */
    private static PeaceRing swornAt(int hour, int road, int every, int at) {
        PeaceRing r = inside(1, "");
        Check.pass(r, hour);
        r.seek(0);
        r.swear(0);
        r.port(3, 0, road);
        r.port(3, 1, every);
        r.port(3, 2, at);
        return r;
    }

    @Says({"On which DAY they sail.", "leave(): a sworn one is leaving, to a PORT.", "DAY of an HOUR: it by 24;",
        "One who leaves comes there on the DAY that is ROAD behind, and sails on the first DAY from then on on which a SHIP goes",
        "SHIPS go on DAYS that modulo EVERY (1 to 30; 7 at first) are AT (0 to 29; 0 at first)."})
    static void promise24_theFirstShipFromThenOn() {
        // HOUR, ROAD, EVERY, AT; then the DAY: on the very DAY, the DAY ahead missed, EVERY of 1, the longest ones, the last HOUR.
        int[][] told = {{0, 5, 7, 5, 5}, {0, 5, 7, 4, 11}, {0, 5, 7, 6, 6}, {23, 1, 2, 1, 1}, {24, 1, 2, 1, 3}, {47, 1, 2, 0, 2},
            {0, 1, 1, 0, 1}, {0, 30, 30, 0, 30}, {24, 30, 30, 0, 60}, {0, 1, 30, 29, 29}, {0, 30, 30, 29, 59}, {0, 1, 30, 0, 30},
            {9999, 30, 30, 26, 446}, {9999, 1, 1, 0, 417}};
        for (int[] t : told) {
            PeaceRing r = swornAt(t[0], t[1], t[2], t[3]);
            all(of(r.leave(0, 3), r.personOf(0, 2), r.personOf(0, 3), r.personOf(0, 7)), t[4], 3, t[0], 3);
        }
    }

    @Says("BAD: there is no such PERSON, PORT")
    static void promise24_noSuchPersonOrPort() {
        refused(BAD, RICH, r -> r.leave(-1, 0), r -> r.leave(9, 0), r -> r.leave(HIGH, 0), r -> r.leave(2, -1), r -> r.leave(2, 5),
            r -> r.leave(2, LOW), r -> r.leave(0, 5));
        PeaceRing r = rich();
        due(r.leave(2, 4), 7);
    }

    @Says("STATE: they aren't sworn")
    static void promise24_notSworn() {
        refused(STATE, RICH, r -> r.leave(0, 0), r -> r.leave(1, 0), r -> r.leave(3, 0), r -> r.leave(4, 0), r -> r.leave(5, 0),
            r -> r.leave(8, 0));
    }

    @Says({"NONE: no SHIP goes.", "(NONE, if AT is not below EVERY)"})
    static void promise24_noShip() {
        // PORT 2 of the settled ring is AT 9, EVERY 7.
        refused(NONE, RICH, r -> r.leave(2, 2));
        refused(NONE, () -> swornAt(0, 5, 7, 7), r -> r.leave(0, 3));
        refused(NONE, () -> swornAt(0, 5, 1, 1), r -> r.leave(0, 3));
        refused(NONE, () -> swornAt(0, 5, 29, 29), r -> r.leave(0, 3));
        due(swornAt(0, 5, 30, 29).leave(0, 3), 29);
    }

    @Says("of several the first named")
    static void promise24_stateAheadOfNone() {
        refused(STATE, RICH, r -> r.leave(1, 2));
        refused(BAD, RICH, r -> r.leave(9, 2));
    }

    // ---- 25: dwell

    @Says({"1.", "dwell(): a safe one of whose DEEDS that are KNOWN NOW all are debts is a dweller."})
    static void promise25_debtsAlone() {
        PeaceRing r = inside(3, "");
        for (int p = 0; p < 3; p++) r.seek(p);
        r.deed(1, 3, -1, 0, 0, 0);
        r.deed(1, 3, 0, 0, 0, 0);
        r.deed(2, 3, -1, 0, 0, 0);
        r.deed(2, 0, -1, 0, 0, 3);
        r.hours(2);
        // None at all; debts alone; another one that isn't KNOWN yet.
        for (int p = 0; p < 3; p++) all(of(r.dwell(p), r.personOf(p, 2), r.personOf(p, 3)), 1, 4, 2);
    }

    @Says("BAD: there is no such PERSON")
    static void promise25_noSuchPerson() {
        refused(BAD, RICH, r -> r.dwell(-1), r -> r.dwell(9), r -> r.dwell(LOW), r -> r.dwell(HIGH));
    }

    @Says("STATE: they aren't safe, or a DEED that is KNOWN is no debt.")
    static void promise25_notSafe() {
        refused(STATE, RICH, r -> r.dwell(0), r -> r.dwell(2), r -> r.dwell(3), r -> r.dwell(4), r -> r.dwell(5), r -> r.dwell(8));
    }

    @Says("a DEED that is KNOWN is no debt.")
    static void promise25_aDeedThatIsNoDebt() {
        for (int kind : of(0, 1, 2, 4, 5)) {
            refused(STATE, () -> {
                PeaceRing r = inside(1, "");
                r.seek(0);
                r.deed(0, 3, -1, 0, 0, 0);
                r.deed(0, kind, -1, 0, 0, 1);
                r.hours(1);
                return r;
            }, r -> r.dwell(0));
        }
    }

    // ---- 26: port

    @Says({"ROAD (what = 0), EVERY (1), AT (2) of a PORT: what it was.", "PORTS 0 to 4: DAYS of ROAD to it (1 to 30; 5 at first)",
        "SHIPS go on DAYS that modulo EVERY (1 to 30; 7 at first) are AT (0 to 29; 0 at first)."})
    static void promise26_leastAndGreatest() {
        PeaceRing r = new PeaceRing();
        for (int port = 0; port < 5; port++) {
            all(of(r.port(port, 0, 1), r.port(port, 0, 30), r.port(port, 0, 5)), 5, 1, 30);
            all(of(r.port(port, 1, 1), r.port(port, 1, 30), r.port(port, 1, 7)), 7, 1, 30);
            all(of(r.port(port, 2, 0), r.port(port, 2, 29), r.port(port, 2, 0)), 0, 0, 29);
        }
    }

    @Says("BAD: there is no such PORT, what, or v isn't as told.")
    static void promise26_noSuchThing() {
        refused(BAD, RICH, r -> r.port(-1, 0, 5), r -> r.port(5, 0, 5), r -> r.port(LOW, 0, 5), r -> r.port(HIGH, 0, 5),
            r -> r.port(0, -1, 5), r -> r.port(0, 3, 5), r -> r.port(0, HIGH, 5));
        refused(BAD, RICH, r -> r.port(0, 0, 0), r -> r.port(0, 0, 31), r -> r.port(0, 1, 0), r -> r.port(0, 1, 31),
            r -> r.port(0, 2, -1), r -> r.port(0, 2, 30), r -> r.port(0, 0, LOW), r -> r.port(0, 1, HIGH), r -> r.port(0, 2, LOW));
    }

    // ---- 27: sails

    @Says({"Of one who is leaving: what = 0 the DAY on which they come to the PORT, 1 on which they sail (NONE),",
        "TIDES: on how many DAYS they wait there."})
    static void promise27_comeAndSail() {
        int[][] told = {{0, 5, 7, 5, 5, 5, 0}, {0, 5, 7, 4, 5, 11, 6}, {24, 30, 30, 0, 31, 60, 29}, {47, 1, 1, 0, 2, 2, 0},
            {9999, 30, 30, 26, 446, 446, 0}, {9999, 30, 30, 25, 446, 475, 29}};
        for (int[] t : told) {
            PeaceRing r = swornAt(t[0], t[1], t[2], t[3]);
            r.leave(0, 3);
            all(of(r.sails(0, 0), r.sails(0, 1), r.sails(0, 2)), t[4], t[5], t[6]);
        }
        // It goes by when they left, whatever NOW is.
        PeaceRing r = swornAt(23, 1, 7, 3);
        r.leave(0, 3);
        r.hours(100);
        all(of(r.sails(0, 0), r.sails(0, 1), r.sails(0, 2)), 1, 3, 2);
    }

    @Says({"2 TIDES (NONE).", "(NONE, if AT is not below EVERY)"})
    static void promise27_noShipAnyMore() {
        PeaceRing r = swornAt(0, 5, 7, 6);
        r.leave(0, 3);
        all(of(r.sails(0, 1), r.sails(0, 2)), 6, 1);
        r.port(3, 1, 6);
        all(of(r.sails(0, 0), r.sails(0, 1), r.sails(0, 2)), 5, NONE, NONE);
        r.port(3, 2, 5);
        all(of(r.sails(0, 0), r.sails(0, 1), r.sails(0, 2)), 5, 5, 0);
    }

    @Says("BAD: there is no such PERSON, what")
    static void promise27_noSuchPersonOrWhat() {
        refused(BAD, RICH, r -> r.sails(-1, 0), r -> r.sails(9, 0), r -> r.sails(HIGH, 0), r -> r.sails(3, -1), r -> r.sails(3, 3),
            r -> r.sails(3, LOW), r -> r.sails(0, 3));
    }

    @Says("STATE: they aren't leaving.")
    static void promise27_notLeaving() {
        refused(STATE, RICH, r -> r.sails(0, 0), r -> r.sails(1, 1), r -> r.sails(2, 2), r -> r.sails(4, 0), r -> r.sails(5, 0),
            r -> r.sails(8, 0));
        PeaceRing r = rich();
        r.take(0, 3);
        due(r.sails(3, 0), STATE);
    }

    // ---- 28: take

    @Says({"A TAKING: its number", "A TAKING by a PERSON of another one, where that one is, NOW: one who isn't taken or broken already",
        "is taken, if they aren't SAFE there as KNOWN NOW and are not sworn or leaving;"})
    static void promise28_takenLawfully() {
        // A free one, a safe one and a dweller, each outside; and one inside with a DEED that doesn't COUNT.
        PeaceRing r = inside(5, "theft fail if against;");
        r.seek(2);
        r.seek(3);
        r.dwell(3);
        for (int p = 1; p < 4; p++) r.move(p, 99);
        r.deed(4, 0, 0, 0, 0, 0);
        r.hours(3);
        for (int p = 1; p < 5; p++) {
            all(of(r.take(0, p), r.personOf(p, 2), r.personOf(p, 3), r.personOf(0, 8), r.taking(p - 1, 4)), p - 1, 5, 3, 0, 0);
        }
    }

    @Says("else broken, and the taker OWES COST of the one who is taken times DEGREE of the CELL (DEGREE 1 at least).")
    static void promise28_brokenAndOwed() {
        PeaceRing r = inside(7, "cost 7;");
        for (int p = 2; p < 6; p++) r.seek(p);
        r.swear(3);
        r.swear(4);
        r.leave(4, 0);
        r.dwell(5);
        r.move(4, 99);
        r.ground(55, 3);
        int[] owed = {35, 35, 35, 7, 35};
        int sum = 0;
        for (int p = 1; p < 6; p++) {
            sum += owed[p - 1];
            all(of(r.take(6, p), r.personOf(p, 2), r.taking(p - 1, 4), r.personOf(6, 8)), p - 1, 6, owed[p - 1], sum);
        }
    }

    @Says("OWES COST of the one who is taken")
    static void promise28_costOfTheOneWhoIsTaken() {
        PeaceRing r = inside(4, "cost 9 if night; cost 999 if not night;");
        r.deed(0, 0, -1, 0, 0, 0);
        r.hours(12);
        r.deed(1, 0, -1, 12, 0, 12);
        // By day for 1, without a DEED for 2; the DEED of the taker is not looked at. COST may be 0.
        all(of(r.take(0, 1), r.taking(0, 4), r.take(0, 2), r.taking(1, 4), r.personOf(0, 8)), 0, 1998, 1, 20, 2018);
        Check.read(r, 1, "cost 0;");
        all(of(r.take(0, 3), r.taking(2, 4), r.personOf(3, 2), r.personOf(0, 8)), 2, 0, 6, 2018);
    }

    @Says("as KNOWN NOW")
    static void promise28_asKnownNow() {
        for (int known : of(4, 5, 6)) {
            PeaceRing r = inside(2, "theft fail;");
            r.hours(5);
            r.deed(1, 0, -1, 0, 0, known);
            all(of(r.take(0, 1), r.personOf(1, 2)), 0, known <= 5 ? 5 : 6);
        }
    }

    @Says("The one who is taken has no AIM then.")
    static void promise28_noAimThen() {
        PeaceRing r = inside(3, "");
        for (int p = 0; p < 3; p++) r.aim(p, 99);
        r.move(2, 0);
        r.aim(2, 99);
        r.take(0, 1);
        r.take(0, 2);
        all(of(r.personOf(0, 4), r.personOf(1, 4), r.personOf(2, 4), r.many(7)), 99, NONE, NONE, 1);
        r.hours(3);
        all(of(r.personOf(1, 0), r.personOf(2, 0)), 55, 0);
    }

    @Says("BAD: there is no such PERSON (either), or they are the same")
    static void promise28_noSuchPerson() {
        refused(BAD, RICH, r -> r.take(-1, 1), r -> r.take(9, 1), r -> r.take(0, -1), r -> r.take(0, 9), r -> r.take(LOW, HIGH),
            r -> r.take(0, 0), r -> r.take(5, 5), r -> r.take(8, 8), r -> r.take(8, 9));
    }

    @Says("STATE: the one is taken or broken already, or the taker is")
    static void promise28_takenAlready() {
        refused(STATE, RICH, r -> r.take(0, 5), r -> r.take(0, 8), r -> r.take(5, 0), r -> r.take(8, 0), r -> r.take(5, 8),
            r -> r.take(8, 5));
    }

    /** All but one of sixteen are taken: more TAKINGS there can't be. */
    private static PeaceRing allTaken() {
        PeaceRing r = EdgesGroundTest.sixteen();
        for (int p = 1; p < 16; p++) r.take(0, p);
        return r;
    }

    @Says({"(16 at most).", "FULL."})
    static void promise28_fullIsNeverReached() {
        PeaceRing r = EdgesGroundTest.sixteen();
        for (int p = 1; p < 16; p++) due(r.take(p == 15 ? 0 : 15, p), p - 1);
        all(of(r.many(5), r.taking(14, 0), r.taking(14, 1)), 15, 0, 15);
        // One must take, and none is taken twice: whatever is tried now is refused by STATE, or by BAD.
        refused(STATE, EdgesStatesTest::allTaken, s -> s.take(0, 1), s -> s.take(1, 0), s -> s.take(0, 15), s -> s.take(15, 0));
        refused(BAD, EdgesStatesTest::allTaken, s -> s.take(0, 0), s -> s.take(0, 16));
    }

    // ---- 29: taking

    @Says("Of a TAKING: what = 0 taker, 1 whom, 2 HOUR, 3 CELL, 4 what the taker OWES for it,")
    static void promise29_fiveThings() {
        PeaceRing r = rich();
        int[][] due = {{0, 5, 30, 55, 20}, {0, 8, 30, 99, 0}};
        r.move(5, 1);
        r.move(8, 2);
        r.hours(5);
        for (int t = 0; t < 2; t++) for (int what = 0; what < 5; what++) due(r.taking(t, what), due[t][what]);
    }

    @Says({"5 RIGHT.", "RIGHT of a TAKING: whether it was lawful as KNOWN then (bit 0),"})
    static void promise29_asKnownThen() {
        PeaceRing r = inside(3, "theft fail;");
        r.deed(1, 0, -1, 0, 0, 0);
        r.take(0, 1);
        r.take(0, 2);
        all(of(r.taking(0, 5), r.taking(1, 5)), 3, 0);
    }

    @Says("and as it was (bit 1: with all DEEDS that are told by now as if KNOWN then).")
    static void promise29_asItWas() {
        PeaceRing r = inside(4, "theft fail;");
        r.hours(5);
        r.deed(1, 0, -1, 5, 0, 9999);
        r.take(0, 1);
        r.take(0, 2);
        r.seek(3);
        r.swear(3);
        r.take(0, 3);
        // One that none knew of yet; one that is told later; one that was done later; the oath, whatever one did.
        all(of(r.taking(0, 5), r.taking(1, 5), r.taking(2, 5)), 2, 0, 0);
        r.hours(1);
        r.deed(2, 0, -1, 6, 0, 6);
        r.deed(3, 0, -1, 0, 0, 0);
        all(of(r.taking(1, 5), r.taking(2, 5)), 0, 0);
        r.deed(2, 0, -1, 5, 0, 6);
        all(of(r.taking(1, 5), r.personOf(2, 2), r.taking(1, 4), r.personOf(0, 8)), 2, 6, 20, 60);
    }

    @Says("BAD: there is none such, another what.")
    static void promise29_noSuchTakingOrWhat() {
        refused(BAD, RICH, r -> r.taking(-1, 0), r -> r.taking(2, 0), r -> r.taking(LOW, 0), r -> r.taking(HIGH, 0),
            r -> r.taking(0, -1), r -> r.taking(0, 6), r -> r.taking(0, LOW), r -> r.taking(0, HIGH));
        refused(BAD, FRESH, r -> r.taking(0, 0));
    }
}
