/** Promises 40 to 45 at their edges. */
public final class EdgesBellsTest extends Edges {
    public static void main(String[] args) throws Exception {
        runAll(EdgesBellsTest.class);
    }

    // ---- 40: bell

    @Says({"A BELL: its number.", "BELLS, 8 at most, numbered as they come: rung at a CELL, NOW, LOUD (0 to 18)."})
    static void promise40_eightAreNumbered() {
        PeaceRing r = new PeaceRing();
        r.ground(50, 1);
        int[] cells = {0, 99, 50, 0, 99, 50, 5, 5};
        for (int b = 0; b < 8; b++) due(r.bell(cells[b], b % 2 == 0 ? 0 : 18), b);
        due(r.many(8), 8);
    }

    @Says("PERSONS who are LOUD FAR at most HEAR it NOW.")
    static void promise40_loudFarAtMost() {
        PeaceRing r = new PeaceRing();
        int[] cells = {0, 1, 11, 30, 99, 98};
        for (int cell : cells) r.person(cell, 1);
        r.ground(10, 1);
        r.ground(2, 1);
        r.ground(12, 1);
        r.ground(21, 1);
        r.hours(9);
        int[] loud = {0, 1, 2, 3, 17, 18};
        // By FAR, over walls.
        int[] far = {0, 1, 2, 3, 18, 17};
        for (int b = 0; b < 6; b++) {
            due(r.bell(0, loud[b]), b);
            for (int p = 0; p < 6; p++) due(r.heard(p, b), far[p] <= loud[b] ? 9 : NONE);
        }
    }

    @Says("BAD: there is no such CELL, or loud isn't as told")
    static void promise40_noSuchCellOrLoud() {
        refused(BAD, RICH, r -> r.bell(-1, 0), r -> r.bell(100, 0), r -> r.bell(LOW, 0), r -> r.bell(5, -1), r -> r.bell(5, 19),
            r -> r.bell(5, LOW), r -> r.bell(5, HIGH));
    }

    private static PeaceRing eightBells() {
        PeaceRing r = new PeaceRing();
        r.person(0, 1);
        for (int b = 0; b < 8; b++) r.bell(99, b);
        return r;
    }

    @Says({"FULL.", "BELLS, 8 at most"})
    static void promise40_noNinth() {
        refused(FULL, EdgesBellsTest::eightBells, r -> r.bell(0, 0), r -> r.bell(0, 18));
        refused(BAD, EdgesBellsTest::eightBells, r -> r.bell(0, 19), r -> r.bell(100, 0));
    }

    // ---- 41: heard

    @Says("The HOUR at which a PERSON HEARD a BELL.")
    static void promise41_firstHour() {
        PeaceRing r = new PeaceRing();
        r.person(0, 1);
        r.bell(0, 0);
        r.hours(9);
        r.bell(0, 0);
        r.hours(50);
        r.person(0, 1);
        r.hours(1);
        // It stays the first HOUR; who comes later is told of each of them.
        all(of(r.heard(0, 0), r.heard(0, 1), r.heard(1, 0), r.heard(1, 1)), 0, 9, 60, 60);
        PeaceRing last = at(9999);
        last.person(0, 1);
        last.bell(0, 0);
        due(last.heard(0, 0), 9999);
    }

    @Says("BAD: there is no such PERSON, BELL")
    static void promise41_noSuchPersonOrBell() {
        refused(BAD, RICH, r -> r.heard(-1, 0), r -> r.heard(9, 0), r -> r.heard(HIGH, 0), r -> r.heard(0, -1), r -> r.heard(0, 1),
            r -> r.heard(0, LOW), r -> r.heard(0, HIGH));
        refused(BAD, EdgesBellsTest::eightBells, r -> r.heard(0, 8), r -> r.heard(1, 7));
        refused(BAD, FRESH, r -> r.heard(0, 0));
    }

    @Says("NONE.")
    static void promise41_notHeard() {
        refused(NONE, EdgesBellsTest::eightBells, r -> r.heard(0, 0), r -> r.heard(0, 7));
        PeaceRing r = rich();
        all(of(r.heard(8, 0), r.person(55, 1), r.heard(9, 0)), NONE, 9, NONE);
    }

    // ---- 42: sight

    @Says({"A SIGHT: its number.", "NIGHTS: SIGHTS, 16 at most: somebody was seen at a CELL at an HOUR of a NIGHT",
        "with LEGS (1 to 4; 0: not told)."})
    static void promise42_sixteenAreNumbered() {
        PeaceRing r = at(48);
        r.ground(50, 1);
        for (int s = 0; s < 16; s++) due(r.sight(s == 0 ? 0 : s == 1 ? 99 : 50, s == 15 ? 48 : 0, s % 5), s);
        due(r.many(9), 16);
    }

    @Says("BAD: there is no such CELL, hour isn't 0 to NOW, or legs not 0 to 4")
    static void promise42_noSuchThing() {
        // NOW is 30: 24 to 29 are NIGHT, 31 is not yet.
        refused(BAD, RICH, r -> r.sight(-1, 21, 0), r -> r.sight(100, 21, 0), r -> r.sight(HIGH, 21, 0), r -> r.sight(5, -1, 0),
            r -> r.sight(5, 31, 0), r -> r.sight(5, 44, 0), r -> r.sight(5, LOW, 0), r -> r.sight(5, HIGH, 0), r -> r.sight(5, 21, -1),
            r -> r.sight(5, 21, 5), r -> r.sight(5, 21, LOW), r -> r.sight(5, 12, 5));
        PeaceRing r = at(29);
        all(of(r.sight(5, 29, 4), r.sight(5, 30, 4)), 0, BAD);
    }

    @Says({"STATE: it is not NIGHT then", "NIGHT: its CLOCK is 20 or more, or below 6."})
    static void promise42_notNight() {
        refused(STATE, RICH, r -> r.sight(5, 6, 0), r -> r.sight(5, 12, 4), r -> r.sight(5, 19, 0), r -> r.sight(5, 30, 0));
        PeaceRing r = at(9999);
        int[] hours = {0, 5, 20, 23, 24, 29, 44, 9980, 9984, 9989};
        for (int s = 0; s < hours.length; s++) due(r.sight(5, hours[s], 0), s);
        for (int hour : of(6, 19, 30, 43, 9979, 9990, 9999)) due(r.sight(5, hour, 0), STATE);
    }

    private static PeaceRing sixteenSights() {
        PeaceRing r = new PeaceRing();
        r.hours(8);
        for (int s = 0; s < 16; s++) r.sight(s, 0, 0);
        return r;
    }

    @Says({"FULL.", "SIGHTS, 16 at most"})
    static void promise42_noSeventeenth() {
        refused(FULL, EdgesBellsTest::sixteenSights, r -> r.sight(0, 0, 0), r -> r.sight(99, 5, 4));
        refused(STATE, EdgesBellsTest::sixteenSights, r -> r.sight(0, 6, 0));
        refused(BAD, EdgesBellsTest::sixteenSights, r -> r.sight(0, 0, 5), r -> r.sight(0, 9, 0));
    }

    // ---- 43: who

    /** Dwellers 0 to 3 with LEGS 1 to 4 at CELL 0; 4 is safe there; NOW is 48. */
    private static PeaceRing dwellers() {
        PeaceRing r = new PeaceRing();
        r.stone(0, 1);
        for (int p = 0; p < 5; p++) {
            r.person(0, 1 + p % 4);
            r.seek(p);
            if (p < 4) r.dwell(p);
        }
        Check.pass(r, 48);
        return r;
    }

    private static int who(PeaceRing r, int cell, int hour, int legs) {
        return r.who(r.sight(cell, hour, legs));
    }

    @Says({"It could be a dweller, if the LEGS are theirs (or not told)", "WHO: all that could be, as bits.", "WHO."})
    static void promise43_legs() {
        PeaceRing r = dwellers();
        for (int legs = 0; legs < 5; legs++) due(who(r, 0, 20, legs), of(15, 1, 2, 4, 8)[legs]);
    }

    @Says("and the WAY from where they are to that CELL is LEGS times the HOURS since that NIGHT began (at CLOCK 20) at most")
    static void promise43_hoursSinceTheNightBegan() {
        PeaceRing r = dwellers();
        // At 20 itself none has gone a STEP.
        all(of(who(r, 0, 20, 0), who(r, 1, 20, 0), who(r, 0, 44, 0), who(r, 1, 44, 0)), 15, 0, 15, 0);
        // An HOUR later each has gone LEGS at most.
        for (int way = 1; way <= 5; way++) due(who(r, way, 21, 0), 15 & -1 << way - 1);
        // Across midnight: at 24 it is four HOURS, at 29 nine.
        all(of(who(r, 4, 24, 0), who(r, 5, 24, 0), who(r, 9, 29, 0), who(r, 19, 29, 0)), 15, 14, 15, 14);
    }

    @Says("since that NIGHT began (at CLOCK 20)")
    static void promise43_theNightAheadOfHourNought() {
        PeaceRing r = dwellers();
        // HOURS 0 to 5 are of a NIGHT that began four HOURS ahead of 0.
        all(of(who(r, 4, 0, 1), who(r, 5, 0, 1), who(r, 9, 5, 1), who(r, 19, 5, 1)), 1, 0, 1, 0);
    }

    @Says("and there is one.")
    static void promise43_noWay() {
        PeaceRing r = dwellers();
        r.move(1, 99);
        r.ground(1, 1);
        r.ground(10, 1);
        // Who is shut in is seen at home alone; a wall is no CELL to go to.
        all(of(who(r, 0, 29, 0), who(r, 2, 29, 0), who(r, 1, 29, 0), who(r, 99, 20, 0)), 13, 2, 0, 2);
    }

    @Says("It could be a dweller")
    static void promise43_dwellersAlone() {
        PeaceRing r = dwellers();
        r.sight(0, 20, 0);
        // 4 is safe; who is taken is no dweller any more; who moves is elsewhere.
        due(r.who(0), 15);
        r.take(4, 0);
        due(r.who(0), 14);
        r.move(1, 9);
        due(r.who(0), 12);
        r.dwell(4);
        due(r.who(0), 28);
    }

    @Says("BAD: there is no such SIGHT.")
    static void promise43_noSuchSight() {
        refused(BAD, RICH, r -> r.who(-1), r -> r.who(2), r -> r.who(LOW), r -> r.who(HIGH));
        refused(BAD, FRESH, r -> r.who(0));
        refused(BAD, EdgesBellsTest::sixteenSights, r -> r.who(16));
    }

    // ---- 44: narrow

    @Says({"NARROW, as bits.", "NARROW: of two VERSIONS, PERSONS who would be SAFE where they are NOW as KNOWN NOW",
        "and not if the second one was."})
    static void promise44_withoutDeeds() {
        PeaceRing r = new PeaceRing();
        r.stone(0, 1);
        for (int p = 0; p < 16; p++) r.person(p, 1);
        Check.read(r, 0, "mile 18;");
        Check.read(r, 1, "mile 0;");
        Check.read(r, 2, "mile 9;");
        // CELLS 0 to 9 are 0 to 9 off, 10 to 15 are 1 to 6.
        all(of(r.narrow(0, 1), r.narrow(1, 0), r.narrow(0, 2), r.narrow(2, 1), r.narrow(1, 1), r.narrow(0, 0)),
            0xfffe, 0, 0, 0xfffe, 0, 0);
        Check.read(r, 2, "");
        // MILE 3 without a LINE.
        all(of(r.narrow(0, 3), r.narrow(3, 1)), 0xe3f0, 0x1c0e);
    }

    @Says("if the first one alone was in force (always),")
    static void promise44_aloneAndAlways() {
        PeaceRing r = by("mile 4;");
        r.stone(50, 1);
        r.person(50, 1);
        r.deed(0, 0, -1, 0, 54, 0);
        r.hours(5);
        r.strike(0);
        Check.read(r, 0, "theft fail if inside; mile 0;");
        Check.read(r, 1, "theft fail if inside; mile 4;");
        Check.read(r, 2, "theft fail if not inside; mile 0;");
        // By VERSION 1 alone the DEED was done outside (MILE 0 even then, and SAFE so), by 2 inside, by 3 outside (and neither SAFE).
        all(of(r.narrow(1, 2), r.narrow(2, 1), r.narrow(1, 3), r.narrow(3, 1), r.narrow(0, 1), r.narrow(0, 2)), 1, 0, 1, 0, 0, 1);
    }

    @Says("if the first one alone was in force (always),")
    static void promise44_nothingOfItStays() {
        PeaceRing r = by("mile 4; theft fail if inside;");
        r.stone(50, 1);
        r.person(50, 1);
        r.deed(0, 0, -1, 0, 54, 0);
        Check.read(r, 1, "forty 3;");
        all(of(r.counts(0, 50, 0), r.narrow(1, 0), r.counts(0, 50, 0), r.rule(0, 0), r.rule(0, 2), r.within(54, 0)), 0, 1, 0, 4, 3, 1);
        all(of(r.narrow(0, 1), r.counts(0, 50, 0), r.line(0, 50, 0), r.many(13), r.degree(54, 0)), 0, 0, 1, 0, 1);
    }

    @Says("as KNOWN NOW if the first one alone was in force")
    static void promise44_asKnownNow() {
        PeaceRing r = by("theft fail;");
        r.stone(50, 1);
        r.person(50, 1);
        r.deed(0, 0, -1, 0, 0, 5);
        Check.read(r, 0, "");
        all(of(r.narrow(1, 0), r.hours(4), r.narrow(1, 0), r.hours(1), r.narrow(1, 0)), 0, 4, 0, 5, 1);
    }

    @Says("BAD: there is no such VERSION (either).")
    static void promise44_noSuchVersion() {
        refused(BAD, RICH, r -> r.narrow(-1, 0), r -> r.narrow(3, 0), r -> r.narrow(0, -1), r -> r.narrow(0, 3), r -> r.narrow(LOW, HIGH));
        refused(BAD, FRESH, r -> r.narrow(0, 0));
        refused(BAD, EdgesChartersTest::twelve, r -> r.narrow(12, 0), r -> r.narrow(0, 12));
        due(EdgesChartersTest.twelve().narrow(11, 0), 0);
    }

    // ---- 45: both

    /** A STONE at 50; PERSONS 0 to 5 at 0 to 5 off it, each with a DEED that none knows yet; MILE 3. */
    private static PeaceRing six() {
        PeaceRing r = new PeaceRing();
        r.stone(50, 1);
        for (int p = 0; p < 6; p++) {
            r.person(50 + p, 1);
            r.deed(p, 0, -1, 0, 0, 9999);
        }
        return r;
    }

    @Says({"BOTH.", "BOTH: the greatest MILE (0 to 18) with which, instead of that NOW",
        "no more than n PERSONS who are SAFE NOW as KNOWN NOW would be SAFE no more,"})
    static void promise45_noMoreThanN() {
        PeaceRing r = six();
        // m asks for a MILE so small that so many are outside; with each of them up to 4 more are lost.
        all(of(r.both(0, 0), r.both(16, 0), r.both(0, 1), r.both(0, 2), r.both(0, 3), r.both(1, 3), r.both(1, 4), r.both(2, 4)),
            18, 18, 4, 3, NONE, 2, NONE, 1);
        all(of(r.both(3, 5), r.both(2, 5), r.both(16, 5), r.both(16, 6), r.both(16, 16)), 0, NONE, 0, NONE, NONE);
    }

    @Says("and at least m of those that aren't taken or broken, and have DEEDS, would not be SAFE;")
    static void promise45_atLeastM() {
        PeaceRing r = six();
        r.person(59, 1);
        // PERSON 6 has no DEEDS; 5 and 3 are taken and broken.
        due(r.both(0, 2), 3);
        r.take(0, 5);
        all(of(r.both(0, 1), r.both(0, 2), r.both(1, 2)), 3, NONE, 2);
        r.take(0, 3);
        all(of(r.personOf(3, 2), r.both(0, 1), r.both(1, 2), r.both(2, 2), r.both(2, 3)), 6, 3, NONE, 1, NONE);
    }

    @Says("no more than n PERSONS who are SAFE NOW as KNOWN NOW would be SAFE no more,")
    static void promise45_asKnownNow() {
        PeaceRing r = by("any fail;");
        r.stone(50, 1);
        r.person(50, 1);
        r.person(53, 1);
        r.deed(0, 0, -1, 0, 0, 5);
        r.hours(4);
        // Not KNOWN yet: 0 is SAFE with every MILE.
        all(of(r.both(16, 1), r.both(0, 0)), NONE, 18);
        r.hours(1);
        all(of(r.both(0, 1), r.both(0, 2), r.many(13)), 18, NONE, 1);
    }

    @Says("all else as it is (inside of DEEDS, too),")
    static void promise45_insideStaysAsItIs() {
        PeaceRing r = by("theft fail if inside; blow fail if degree above 0;");
        r.stone(50, 1);
        r.person(50, 1);
        r.person(55, 1);
        r.deed(0, 0, -1, 0, 54, 0);
        r.deed(1, 1, -1, 0, 0, 0);
        // The theft stays outside with MILE 18, so 0 is SAFE with all; 1 with none, as it is INSIDE or not.
        all(of(r.both(0, 1), r.both(0, 2), r.both(16, 2), r.counts(0, 50, 0), r.rule(0, 0)), 18, NONE, NONE, 1, 3);
        PeaceRing straight = by("measure straight; mile 1;");
        straight.stone(50, 1);
        straight.person(52, 1);
        straight.ground(51, 1);
        straight.deed(0, 0, -1, 0, 0, 0);
        due(straight.both(0, 1), 1);
        straight.strike(0);
        Check.read(straight, 0, "mile 1;");
        // By lanes it is four off.
        due(straight.both(0, 1), 3);
    }

    @Says("BAD: n, m aren't 0 to 16")
    static void promise45_noSuchNumbers() {
        refused(BAD, RICH, r -> r.both(-1, 0), r -> r.both(17, 0), r -> r.both(0, -1), r -> r.both(0, 17), r -> r.both(LOW, 0),
            r -> r.both(0, HIGH), r -> r.both(17, 17));
        due(rich().both(16, 0), 18);
    }

    @Says({"NONE: none.", "NONE."})
    static void promise45_noMile() {
        refused(NONE, EdgesBellsTest::six, r -> r.both(0, 3), r -> r.both(16, 6));
        refused(NONE, FRESH, r -> r.both(0, 1), r -> r.both(16, 16));
        all(of(new PeaceRing().both(0, 0), new PeaceRing().both(16, 0)), 18, 18);
    }
}
