/** Promises 16 to 21 at their edges. */
public final class EdgesDeedsTest extends Edges {
    public static void main(String[] args) throws Exception {
        runAll(EdgesDeedsTest.class);
    }

    // ---- 16: deed

    @Says({"A DEED: its number.", "DEEDS, 24 at most, numbered as they come: of a PERSON",
        "of a KIND (0 theft, 1 blow, 2 killing, 3 debt, 4 oath, 5 treason)"})
    static void promise16_twentyFourOfSixKinds() {
        PeaceRing r = by("theft fail; blow fail if against; killing fail; oath fail; treason fail;");
        r.person(0, 1);
        for (int d = 0; d < 24; d++) due(r.deed(0, d % 6, -1, 0, 0, 0), d);
        for (int kind = 0; kind < 6; kind++) due(r.line(kind, 0, 0), of(0, NONE, 2, NONE, 3, 4)[kind]);
        all(of(r.many(4), r.personOf(0, 9)), 24, 24);
    }

    @Says({"against: a PERSON, or -1.", "against a PERSON (or nobody)"})
    static void promise16_againstSomebodyOrNobody() {
        PeaceRing r = by("any fail if against;");
        r.person(0, 1);
        r.person(0, 1);
        int[] against = {-1, 0, 1};
        for (int d = 0; d < 3; d++) all(of(r.deed(0, 0, against[d], 0, 0, 0), r.counts(d, 0, 0)), d, d == 0 ? 1 : 0);
        all(of(r.personOf(0, 9), r.personOf(1, 9)), 3, 0);
    }

    @Says({"at an HOUR, at a CELL; KNOWN from an HOUR on.", "hour isn't 0 to NOW, or known not hour to 9999"})
    static void promise16_firstAndLastHours() {
        PeaceRing r = rich();
        // NOW is 30; a wall may be where it was done.
        all(of(r.deed(0, 0, -1, 0, 0, 0), r.deed(0, 0, -1, 30, 99, 30), r.deed(0, 0, -1, 0, 50, 9999), r.deed(0, 0, -1, 30, 55, 9999)),
            3, 4, 5, 6);
        due(at(9999).person(0, 1), 0);
        PeaceRing last = at(9999);
        last.person(0, 1);
        all(of(last.deed(0, 0, -1, 9999, 0, 9999), last.deed(0, 0, -1, 10000, 0, 10000)), 0, BAD);
    }

    @Says("BAD: there is no such PERSON (either), KIND, CELL, hour isn't 0 to NOW, or known not hour to 9999")
    static void promise16_noSuchThing() {
        refused(BAD, RICH, r -> r.deed(-1, 0, -1, 5, 5, 5), r -> r.deed(9, 0, -1, 5, 5, 5), r -> r.deed(LOW, 0, -1, 5, 5, 5),
            r -> r.deed(0, 0, -2, 5, 5, 5), r -> r.deed(0, 0, 9, 5, 5, 5), r -> r.deed(0, 0, HIGH, 5, 5, 5),
            r -> r.deed(0, -1, -1, 5, 5, 5), r -> r.deed(0, 6, -1, 5, 5, 5), r -> r.deed(0, HIGH, -1, 5, 5, 5),
            r -> r.deed(0, 0, -1, 5, -1, 5), r -> r.deed(0, 0, -1, 5, 100, 5));
        refused(BAD, RICH, r -> r.deed(0, 0, -1, -1, 5, 5), r -> r.deed(0, 0, -1, 31, 5, 31), r -> r.deed(0, 0, -1, HIGH, 5, HIGH),
            r -> r.deed(0, 0, -1, LOW, 5, 5), r -> r.deed(0, 0, -1, 5, 5, 4), r -> r.deed(0, 0, -1, 5, 5, -1),
            r -> r.deed(0, 0, -1, 5, 5, 10000), r -> r.deed(0, 0, -1, 5, 5, LOW), r -> r.deed(0, 0, -1, 5, 5, HIGH));
        refused(BAD, FRESH, r -> r.deed(0, 0, -1, 0, 0, 0));
    }

    static PeaceRing twentyFour() {
        PeaceRing r = new PeaceRing();
        r.person(0, 1);
        for (int d = 0; d < 24; d++) r.deed(0, d % 6, -1, 0, d, d);
        return r;
    }

    @Says({"FULL.", "DEEDS, 24 at most"})
    static void promise16_noTwentyFifth() {
        refused(FULL, EdgesDeedsTest::twentyFour, r -> r.deed(0, 0, -1, 0, 0, 0), r -> r.deed(0, 5, 0, 0, 99, 9999));
        refused(BAD, EdgesDeedsTest::twentyFour, r -> r.deed(1, 0, -1, 0, 0, 0), r -> r.deed(0, 6, -1, 0, 0, 0),
            r -> r.deed(0, 0, -1, 1, 0, 1));
    }

    // ---- 17: counts

    /**
     * A STONE at 55. DEED 0: theft of PERSON 0 at 21 (NIGHT), not INSIDE, against nobody; 1: theft of 0 at 12 (day), INSIDE,
     * against nobody; 2: theft of 1 at 12, not INSIDE, against somebody. NOW is 30.
     */
    private static PeaceRing deeds(String text) {
        PeaceRing r = by(text);
        r.stone(55, 5);
        r.person(55, 1);
        r.person(55, 1);
        r.hours(30);
        r.deed(0, 0, -1, 21, 0, 21);
        r.deed(0, 0, -1, 12, 55, 12);
        r.deed(1, 0, 0, 12, 0, 12);
        return r;
    }

    /** On which of the three DEEDS a COND holds, at a CELL at an HOUR. */
    private static int holds(String condition, int cell, int hour) {
        PeaceRing r = deeds("any fail if " + condition + ";");
        int bits = 0;
        for (int d = 0; d < 3; d++) if (r.counts(d, cell, hour) == 0) bits |= 1 << d;
        return bits;
    }

    @Says({"Whether a DEED COUNTS for one at a CELL at an HOUR: 1, 0.",
        "A DEED COUNTS (one can be safe from it) for one at a CELL at an HOUR by LINES in force then", "without one it COUNTS."})
    static void promise17_withoutALineItCounts() {
        PeaceRing r = deeds("");
        all(of(r.counts(0, 0, 21), r.counts(1, 55, 9999), r.counts(2, 99, 12)), 1, 1, 1);
        r = deeds("blow and killing and debt and oath and treason fail; mile 3; cost 5;");
        all(of(r.counts(0, 0, 21), r.counts(1, 55, 9999), r.counts(2, 99, 12)), 1, 1, 1);
    }

    @Says("by LINES in force then")
    static void promise17_byLinesOfThatHour() {
        PeaceRing r = deeds("any fail;");
        r.strike(0);
        all(of(r.counts(0, 0, 29), r.counts(0, 0, 30), r.counts(1, 0, 12), r.counts(1, 0, 9999)), 0, 1, 0, 1);
    }

    @Says("the last one (count, fail) that names its KIND (any names all) and whose COND holds tells")
    static void promise17_theLastThatNamesAndHolds() {
        String[] texts = {"any fail;", "theft fail;", "blow fail;", "any fail; theft count;", "theft count; any fail;",
            "theft fail; blow count;", "theft fail; any count if against;", "theft fail; any count if not against; cost 3; mile 4;",
            "any fail; blow and theft count if night; theft fail if inside;"};
        int[] dueOfNought = {0, 0, 1, 1, 0, 0, 0, 1, 1};
        for (int i = 0; i < texts.length; i++) due(deeds(texts[i]).counts(0, 0, 30), dueOfNought[i]);
        PeaceRing r = deeds("theft count;");
        Check.read(r, 2, "theft fail;");
        Check.read(r, 1, "theft count;");
        due(r.counts(0, 0, 30), 0);
    }

    @Says("On it: age: HOURS since it,")
    static void promise17_age() {
        all(of(holds("age above 0", 0, 21), holds("age above 8", 0, 21), holds("age above 9", 0, 21)), 6, 6, 0);
        all(of(holds("age above 0", 0, 22), holds("age above 1", 0, 22)), 7, 6);
        all(of(holds("age above 999", 0, 1011), holds("age above 999", 0, 1012), holds("age above 999", 0, 1021)), 0, 6, 7);
        all(of(holds("not age above 0", 0, 21), holds("age above 999", 0, 9999)), 1, 7);
    }

    @Says("times: how many DEEDS of that KIND (it, too) this PERSON did at its HOUR or ahead,")
    static void promise17_times() {
        all(of(holds("times above 0", 0, 30), holds("times above 1", 0, 30), holds("times above 2", 0, 30)), 7, 1, 0);
        PeaceRing r = deeds("any fail if times above 2;");
        r.deed(0, 1, -1, 5, 0, 5);
        due(r.counts(0, 0, 30), 1);
        r.deed(0, 0, -1, 22, 0, 22);
        // DEED 4 is the third one; it does not count for those ahead of it.
        all(of(r.counts(0, 0, 30), r.counts(4, 0, 30)), 1, 0);
        r.deed(0, 0, -1, 21, 0, 9999);
        // One at the very HOUR, told later and not KNOWN yet, does.
        all(of(r.counts(0, 0, 30), r.counts(5, 0, 30), r.counts(1, 0, 30), r.counts(2, 0, 30)), 0, 0, 1, 1);
    }

    @Says("degree: DEGREE of the CELL where one is (at that HOUR);")
    static void promise17_degree() {
        all(of(holds("degree above 4", 55, 30), holds("degree above 5", 55, 30), holds("degree above 0", 0, 30),
            holds("not degree above 0", 0, 30)), 7, 0, 0, 7);
        PeaceRing r = deeds("any fail if degree above 5;");
        r.ground(56, 2);
        r.ground(57, 3);
        all(of(r.counts(0, 55, 30), r.counts(0, 56, 30), r.counts(0, 57, 30)), 1, 0, 0);
        Check.read(r, 1, "mile 0;");
        all(of(r.counts(0, 57, 29), r.counts(0, 57, 30)), 0, 1);
    }

    @Says("inside: it was done INSIDE (as the LINES in force at its HOUR tell; THE GROUND and STONES as they are now),")
    static void promise17_inside() {
        all(of(holds("inside", 0, 30), holds("inside", 55, 30), holds("not inside", 0, 30)), 2, 2, 5);
        PeaceRing r = deeds("any fail if inside;");
        r.deed(0, 1, -1, 30, 58, 30);
        r.deed(0, 1, -1, 29, 58, 30);
        Check.read(r, 1, "mile 2;");
        // At 30 the MILE is 2, at 29 it was 3: each DEED by its own HOUR, whenever it is asked.
        all(of(r.counts(3, 0, 30), r.counts(4, 0, 30), r.counts(3, 0, 9999), r.counts(4, 0, 9999)), 1, 0, 1, 0);
        r.stone(59, 1);
        all(of(r.counts(3, 0, 30), r.counts(4, 0, 30), r.counts(0, 0, 30)), 0, 0, 1);
        r.stone(0, 1);
        all(of(r.counts(0, 0, 30), r.counts(2, 0, 30)), 0, 0);
        r.ground(57, 1);
        r.ground(49, 1);
        r.ground(69, 1);
        due(r.counts(4, 0, 30), 0);
        r.ground(58, 1);
        // A wall is within none: by lanes there is no WAY to it.
        all(of(r.counts(3, 0, 30), r.counts(4, 0, 30)), 1, 1);
    }

    @Says({"night: at NIGHT,", "NIGHT: its CLOCK is 20 or more, or below 6."})
    static void promise17_night() {
        all(of(holds("night", 0, 30), holds("not night", 0, 30), holds("night", 0, 36)), 1, 6, 1);
        PeaceRing r = by("any fail if night;");
        r.person(0, 1);
        Check.pass(r, 9999);
        int[] clocks = {0, 5, 6, 12, 19, 20, 23};
        int[] hours = new int[21];
        for (int i = 0; i < 21; i++) hours[i] = clocks[i % 7] + (i < 7 ? 0 : i < 14 ? 24 : 9960);
        for (int i = 0; i < 21; i++) {
            r.deed(0, 0, -1, hours[i], 0, hours[i]);
            due(r.counts(i, 0, 9999), i % 7 >= 2 && i % 7 <= 4 ? 1 : 0);
        }
    }

    @Says("against: somebody.")
    static void promise17_against() {
        all(of(holds("against", 0, 30), holds("not against", 0, 30)), 4, 3);
    }

    @Says({"ONE: { not }", "ALL: ONE { and ONE }", "COND: ALL { or ALL }"})
    static void promise17_orBelowAndBelowNot() {
        // Of the DEEDS 0 is at night, 1 inside, 2 against.
        all(of(holds("night or inside and against", 0, 30), holds("(night or inside) and against", 0, 30),
            holds("night and inside or against", 0, 30), holds("not night and inside", 0, 30), holds("not (night and inside)", 0, 30),
            holds("not not night", 0, 30), holds("not night or night", 0, 30), holds("not (night or inside)", 0, 30),
            holds("night or night or against", 0, 30), holds("not night and not inside and not against", 0, 30)),
            1, 0, 4, 2, 7, 1, 7, 4, 5, 0);
        all(of(holds("night or (inside and (times above 0 and (not against and (age above 0))))", 0, 30),
            holds("not(not(not(not night)))", 0, 30), holds("(night or inside) and (inside or against) and not (night)", 0, 30)),
            3, 1, 2);
    }

    @Says("BAD: there is no such DEED, CELL, HOUR, or it is ahead of the DEED.")
    static void promise17_noSuchThing() {
        refused(BAD, RICH, r -> r.counts(-1, 5, 5), r -> r.counts(3, 5, 5), r -> r.counts(LOW, 5, 5), r -> r.counts(HIGH, 5, 5),
            r -> r.counts(0, -1, 5), r -> r.counts(0, 100, 5), r -> r.counts(0, 5, -1), r -> r.counts(0, 5, 10000),
            r -> r.counts(0, 5, LOW), r -> r.counts(0, 5, HIGH));
        refused(BAD, () -> deeds("any fail;"), r -> r.counts(0, 5, 20), r -> r.counts(1, 5, 11), r -> r.counts(2, 5, 0));
        PeaceRing r = deeds("any fail;");
        all(of(r.counts(0, 5, 21), r.counts(1, 5, 12), r.counts(2, 99, 9999)), 0, 0, 0);
    }

    // ---- 18: line

    @Says("Which LINE tells that: 100 times the VERSION and its number in it.")
    static void promise18_versionAndNumber() {
        PeaceRing r = deeds("any fail;");
        due(r.line(0, 0, 30), 0);
        for (int v = 1; v < 11; v++) Check.read(r, 1, "mile 3;");
        Check.read(r, 2, "mile 3;".repeat(8) + "any fail if night; any count;");
        all(of(r.line(0, 0, 30), r.line(0, 0, 29)), 1109, 0);
        r = deeds("any fail;");
        for (int v = 1; v < 11; v++) Check.read(r, 1, "mile 3;");
        Check.read(r, 0, "mile 3;".repeat(9) + "any count;");
        due(r.line(0, 0, 30), 1109);
    }

    @Says("BAD likewise")
    static void promise18_noSuchThing() {
        refused(BAD, RICH, r -> r.line(-1, 5, 5), r -> r.line(3, 5, 5), r -> r.line(LOW, 5, 5), r -> r.line(HIGH, 5, 5),
            r -> r.line(0, -1, 5), r -> r.line(0, 100, 5), r -> r.line(0, 5, -1), r -> r.line(0, 5, 10000), r -> r.line(0, 5, HIGH));
        refused(BAD, () -> deeds("any fail;"), r -> r.line(0, 5, 20), r -> r.line(1, 5, 11));
        due(deeds("any fail;").line(0, 5, 21), 0);
    }

    @Says("NONE: none.")
    static void promise18_noLine() {
        refused(NONE, () -> deeds(""), r -> r.line(0, 5, 30));
        refused(NONE, () -> deeds("blow fail; any fail if age above 9; cost 3;"), r -> r.line(0, 5, 30), r -> r.line(1, 5, 21));
        due(deeds("blow fail; any fail if age above 9; cost 3;").line(1, 5, 22), 1);
    }

    // ---- 19: safe

    @Says({"Whether a PERSON is SAFE at a CELL at an HOUR as KNOWN at k: 1, 0.",
        "A PERSON is SAFE at a CELL at an HOUR as KNOWN at k: it is INSIDE,"})
    static void promise19_insideAlone() {
        PeaceRing r = deeds("");
        all(of(r.safe(0, 55, 0, 0), r.safe(0, 58, 9999, 9999), r.safe(0, 59, 0, 0), r.safe(0, 99, 30, 30)), 1, 1, 0, 0);
        r.person(99, 1);
        // Wherever they are in truth; with no DEEDS at all.
        all(of(r.safe(2, 55, 30, 30), r.safe(2, 99, 30, 30)), 1, 0);
    }

    @Says("and all their DEEDS of that HOUR or ahead that are KNOWN at k COUNT.")
    static void promise19_deedsOfThatHourKnownThen() {
        PeaceRing r = deeds("blow fail;");
        r.deed(0, 1, -1, 20, 0, 25);
        all(of(r.safe(0, 55, 19, 9999), r.safe(0, 55, 20, 9999), r.safe(0, 55, 20, 25), r.safe(0, 55, 20, 24), r.safe(0, 55, 9999, 24),
            r.safe(0, 55, 9999, 25), r.safe(0, 55, 30, 0)), 1, 0, 0, 1, 1, 0, 1);
        // Theirs alone.
        due(r.safe(1, 55, 30, 30), 1);
    }

    @Says("all their DEEDS of that HOUR or ahead")
    static void promise19_oneOfManyIsEnough() {
        PeaceRing r = by("treason fail;");
        r.stone(0, 1);
        r.person(0, 1);
        for (int d = 0; d < 23; d++) r.deed(0, d % 5, -1, 0, 0, 0);
        due(r.safe(0, 0, 0, 0), 1);
        r.deed(0, 5, -1, 0, 0, 0);
        all(of(r.safe(0, 0, 0, 0), r.why(0, 0, 0, 0)), 0, 23);
    }

    @Says("BAD: there is no such PERSON, CELL, HOUR, k.")
    static void promise19_noSuchThing() {
        refused(BAD, RICH, r -> r.safe(-1, 5, 5, 5), r -> r.safe(9, 5, 5, 5), r -> r.safe(HIGH, 5, 5, 5), r -> r.safe(0, -1, 5, 5),
            r -> r.safe(0, 100, 5, 5), r -> r.safe(0, 5, -1, 5), r -> r.safe(0, 5, 10000, 5), r -> r.safe(0, 5, 5, -1),
            r -> r.safe(0, 5, 5, 10000), r -> r.safe(0, 5, LOW, 5), r -> r.safe(0, 5, 5, HIGH));
    }

    // ---- 20: why

    @Says({"WHY they aren't.", "WHY: the first DEED that doesn't;"})
    static void promise20_theFirstDeed() {
        PeaceRing r = deeds("theft fail;");
        all(of(r.why(0, 55, 30, 30), r.why(0, 55, 30, 20), r.why(0, 55, 20, 30), r.why(1, 55, 30, 30)), 0, 1, 1, 2);
        // A DEED is told ahead of the CELL, too.
        all(of(r.why(0, 99, 30, 30), r.why(1, 99, 30, 30)), 0, 2);
    }

    @Says("-9: none, but it isn't INSIDE.")
    static void promise20_notInside() {
        refused(-9, () -> deeds("theft fail;"), r -> r.why(0, 99, 11, 9999), r -> r.why(0, 99, 9999, 11), r -> r.why(1, 59, 0, 0));
        refused(-9, () -> deeds(""), r -> r.why(0, 99, 30, 30));
    }

    @Says("NONE: they are.")
    static void promise20_theyAreSafe() {
        refused(NONE, () -> deeds("theft fail;"), r -> r.why(0, 55, 11, 9999), r -> r.why(0, 58, 9999, 11));
        refused(NONE, () -> deeds(""), r -> r.why(0, 55, 30, 30));
    }

    @Says("BAD likewise")
    static void promise20_noSuchThing() {
        refused(BAD, RICH, r -> r.why(-1, 5, 5, 5), r -> r.why(9, 5, 5, 5), r -> r.why(LOW, 5, 5, 5), r -> r.why(0, -1, 5, 5),
            r -> r.why(0, 100, 5, 5), r -> r.why(0, 5, -1, 5), r -> r.why(0, 5, 10000, 5), r -> r.why(0, 5, 5, -1),
            r -> r.why(0, 5, 5, 10000), r -> r.why(0, 5, HIGH, 5), r -> r.why(0, 5, 5, LOW));
    }

    // ---- 21: cost

    @Says({"COST of a PERSON at an HOUR.", "else 10."})
    static void promise21_elseTen() {
        PeaceRing r = deeds("mile 3; any fail; cost 5 if against;");
        all(of(r.cost(0, 0), r.cost(0, 9999), r.cost(1, 11), r.cost(1, 12)), 10, 10, 10, 5);
    }

    @Says("COST at an HOUR: by the last LINE cost in force whose COND holds on the PERSON's latest DEED")
    static void promise21_theLastLineThatHolds() {
        PeaceRing r = deeds("cost 0; cost 999 if inside; cost 8 if night;");
        // Of PERSON 0 the latest DEED is 1 (inside, by day), though it was done ahead of DEED 0.
        all(of(r.cost(0, 30), r.cost(1, 30)), 999, 0);
        Check.read(r, 1, "cost 4;");
        Check.read(r, 2, "cost 3 if night;");
        all(of(r.cost(0, 29), r.cost(0, 30), r.cost(1, 9999)), 999, 4, 4);
    }

    @Says("(the greatest number; of that HOUR or ahead;")
    static void promise21_theLatestDeed() {
        PeaceRing r = deeds("cost 20; cost 30 if inside; cost 40 if night;");
        all(of(r.cost(0, 11), r.cost(0, 12), r.cost(0, 21)), 20, 30, 30);
        r.deed(0, 5, -1, 22, 0, 9999);
        // DEED 3 counts from 22 on, KNOWN or not.
        all(of(r.cost(0, 21), r.cost(0, 22), r.cost(0, 30)), 30, 40, 40);
    }

    @Says("without one no COND holds;")
    static void promise21_withoutADeed() {
        PeaceRing r = by("cost 20; cost 30 if not night; cost 40 if age above 0; cost 50 if not age above 0;");
        r.person(55, 1);
        all(of(r.cost(0, 0), r.cost(0, 9999)), 20, 20);
        Check.read(r, 0, "cost 30 if not night or night;");
        due(r.cost(0, 0), 10);
        r.deed(0, 0, -1, 0, 0, 0);
        due(r.cost(0, 0), 30);
    }

    @Says("one is where they are NOW)")
    static void promise21_whereTheyAreNow() {
        PeaceRing r = deeds("cost 30 if degree above 4;");
        due(r.cost(0, 30), 30);
        r.move(0, 99);
        all(of(r.cost(0, 30), r.cost(0, 12)), 10, 10);
        r.stone(99, 4);
        due(r.cost(0, 30), 10);
        r.ground(99, 2);
        due(r.cost(0, 12), 30);
    }

    @Says("BAD: there is no such PERSON, HOUR.")
    static void promise21_noSuchPersonOrHour() {
        refused(BAD, RICH, r -> r.cost(-1, 5), r -> r.cost(9, 5), r -> r.cost(LOW, 5), r -> r.cost(HIGH, 5), r -> r.cost(0, -1),
            r -> r.cost(0, 10000), r -> r.cost(0, LOW), r -> r.cost(0, HIGH));
    }
}
