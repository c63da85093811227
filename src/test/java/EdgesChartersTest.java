/** Promises 11 to 15 at their edges. */
public final class EdgesChartersTest extends Edges {
    public static void main(String[] args) throws Exception {
        runAll(EdgesChartersTest.class);
    }

    /** A good TEXT: it is a VERSION of so many LINES. */
    private static void good(String text, int lines) {
        PeaceRing r = new PeaceRing();
        all(of(Check.read(r, 0, text), r.version(0, 1), r.many(11)), 0, lines, 0);
    }

    private static void fault(String text, int place) {
        PeaceRing r = new PeaceRing();
        all(of(Check.read(r, 0, text), r.many(3), r.many(11)), -100 - place, 0, 0);
    }

    // ---- 11: feed

    @Says("n bytes (1 to 8) come to THE TAPE, the lowest of eight first: how many it has.")
    static void promise11_oneToEightBytes() {
        PeaceRing r = new PeaceRing();
        int many = 0;
        for (int n = 1; n <= 8; n++) {
            many += n;
            all(of(r.feed(0x2020_2020_2020_2020L, n), r.many(11)), many, many);
        }
        due(r.read(0), 0);
        // "mile 18;" at once, and byte by byte; what stands above the n-th byte is not taken.
        long mile = 0x3b38_3120_656c_696dL;
        all(of(r.feed(mile, 8), r.read(0), r.version(1, 10)), 8, 1, 18);
        for (int i = 0; i < 8; i++) due(r.feed(mile >> 8 * i, 1), i + 1);
        all(of(r.read(0), r.version(2, 10)), 2, 18);
        all(of(r.feed(mile, 6), r.feed(0x7878_7878_7878_783bL, 1), r.read(0), r.version(3, 10)), 6, 7, 3, 1);
    }

    @Says("n bytes (1 to 8) come to THE TAPE")
    static void promise11_theUppermostByte() {
        PeaceRing r = new PeaceRing();
        // Seven blanks and a byte 255, or 59: a byte is a byte, whatever its sign.
        all(of(r.feed(0xff20_2020_2020_2020L, 8), r.read(0)), 8, -107);
        all(of(r.feed(0x3b20_2020_2020_2020L, 8), r.read(0)), 8, -107);
        all(of(r.feed(-1L, 8), r.read(0), r.feed(0L, 1), r.read(0), r.feed(Long.MIN_VALUE, 7), r.read(0)), 8, -100, 1, -100, 7, -100);
    }

    @Says("BAD;")
    static void promise11_tooFewOrTooManyAtOnce() {
        refused(BAD, RICH, r -> r.feed(0L, 0), r -> r.feed(0L, 9), r -> r.feed(0L, -1), r -> r.feed(0L, LOW), r -> r.feed(0L, HIGH));
    }

    /** A TAPE of so many bytes: blanks, a good LINE in front. */
    private static PeaceRing tape(int bytes) {
        PeaceRing r = new PeaceRing();
        Check.feed(r, "mile 9;" + " ".repeat(bytes - 7));
        return r;
    }

    @Says({"FULL: more than 300.", "THE TAPE takes bytes, 300 at most"})
    static void promise11_threeHundredAndNoMore() {
        refused(FULL, () -> tape(300), r -> r.feed(0x20L, 1), r -> r.feed(0x20L, 8));
        refused(FULL, () -> tape(293), r -> r.feed(0x20L, 8));
        refused(FULL, () -> tape(299), r -> r.feed(0x20L, 2));
        PeaceRing r = tape(292);
        all(of(r.feed(0x2020_2020_2020_2020L, 8), r.many(11), r.read(0), r.version(0, 10)), 300, 300, 0, 9);
        due(tape(299).feed(0x20L, 1), 300);
    }

    @Says("of several the first named: BAD (-1)")
    static void promise11_badAheadOfFull() {
        refused(BAD, () -> tape(300), r -> r.feed(0L, 0), r -> r.feed(0L, 9));
    }

    @Says("read() uses it up.")
    static void promise11_emptyBehindRead() {
        PeaceRing r = tape(300);
        all(of(r.read(0), r.many(11), r.feed(0x2020L, 2), r.read(0), r.version(1, 1)), 0, 0, 2, 1, 0);
    }

    // ---- 12: read

    @Says({"THE TAPE is the TEXT of a CHARTER: the number of the VERSION;", "CHARTERS 0 to 2 are TEXTS.",
        "A CHARTER that is read is a VERSION (12 at most, numbered as they come)"})
    static void promise12_twelveAreNumbered() {
        PeaceRing r = new PeaceRing();
        for (int v = 0; v < 12; v++) all(of(Check.read(r, 2 - v % 3, "forty " + v + ";"), r.version(v, 0)), v, 2 - v % 3);
        due(r.many(3), 12);
    }

    @Says("BAD: there is no such CHARTER")
    static void promise12_noSuchCharter() {
        Call[] calls = {r -> r.read(-1), r -> r.read(3), r -> r.read(LOW), r -> r.read(HIGH)};
        refused(BAD, SETTLED, calls);
        refused(BAD, SETTLED, r -> Check.read(r, 3, "mile 3;"), r -> Check.read(r, -1, "mile 3;"));
    }

    @Says("(but that read() uses THE TAPE up, whatever it answers)")
    static void promise12_theTapeIsUsedUp() {
        PeaceRing r = new PeaceRing();
        all(of(Check.read(r, 3, "mile 3;"), r.many(11), Check.read(r, 0, "mile"), r.many(11)), BAD, 0, -104, 0);
        all(of(Check.read(r, 0, "mile 3;"), r.many(11)), 0, 0);
        PeaceRing full = twelve();
        all(of(Check.read(full, 0, "mile 3;"), full.many(11), full.feed('m', 1)), FULL, 0, 1);
    }

    static PeaceRing twelve() {
        PeaceRing r = new PeaceRing();
        for (int v = 0; v < 12; v++) Check.read(r, v % 3, "mile " + v + ";");
        return r;
    }

    @Says({"FULL (behind a FAULT).", "VERSION (12 at most, numbered as they come)"})
    static void promise12_noThirteenth() {
        refused(FULL, EdgesChartersTest::twelve, r -> Check.read(r, 0, "mile 3;"), r -> r.read(1), r -> Check.read(r, 2, " "));
        refused(-100, EdgesChartersTest::twelve, r -> Check.read(r, 0, ";"));
        refused(-104, EdgesChartersTest::twelve, r -> Check.read(r, 0, "mile"));
        refused(BAD, EdgesChartersTest::twelve, r -> Check.read(r, 3, "mile 3;"), r -> Check.read(r, 3, "mile"));
    }

    @Says("-100 less its FAULT.")
    static void promise12_aFaultChangesNothing() {
        refused(-105, SETTLED, r -> Check.read(r, 0, "mile 19;"), r -> Check.read(r, 1, "mile x;"), r -> Check.read(r, 2, "mile "));
        // Good LINES ahead of it don't come either.
        refused(-107, SETTLED, r -> Check.read(r, 0, "mile 3;x"), r -> Check.read(r, 2, "mile 3;;"));
    }

    @Says("TEXT: { LINE ; }, 10 LINES at most.")
    static void promise12_noneToTenLines() {
        good("", 0);
        good(" ".repeat(300), 0);
        for (int lines = 1; lines <= 10; lines++) good("mile 3;".repeat(lines), lines);
        good("mile 3;".repeat(10) + "  ", 10);
        fault(";", 0);
        fault("mile 3;;", 7);
    }

    @Says("the first NAME of the eleventh LINE, too)")
    static void promise12_noEleventhLine() {
        String ten = "mile 3;".repeat(10);
        fault(ten + "mile 3;", 70);
        fault(ten + "  mile 3;", 72);
        fault(ten + "mile", 70);
        fault(ten + "x", 70);
        fault(ten + "any fail if (((((", 70);
        fault("mile 3;".repeat(9) + "mile", 67);
    }

    @Says({"LINE: mile N | measure lanes | measure straight | forty N", "N are NUMBERS 0 to 999 (of mile 0 to 18)."})
    static void promise12_numbersOfMileAndForty() {
        for (String text : new String[] {"mile 0;", "mile 18;", "mile 00;", "mile 018;", "forty 0;", "forty 999;", "forty 009;"}) {
            good(text, 1);
        }
        fault("mile 19;", 5);
        fault("mile 99;", 5);
        fault("mile 999;", 5);
        fault("mile 019;", 5);
        fault("forty 1000;", 6);
        fault("mile -1;", 5);
        fault("forty -1;", 6);
        fault("mile;", 4);
        fault("forty;", 5);
        fault("mile 1 2;", 7);
        fault("forty 1 if night;", 8);
    }

    @Says("measure lanes | measure straight")
    static void promise12_measures() {
        good("measure lanes;measure straight;", 2);
        fault("measure;", 7);
        fault("measure", 7);
        fault("measure lane;", 8);
        fault("measure lanesstraight;", 8);
        fault("measure 3;", 8);
        fault("measure lanes if night;", 14);
        fault("measure straight lanes;", 17);
        fault("lanes;", 0);
    }

    @Says("| cost N [ if COND ] |")
    static void promise12_costs() {
        good("cost 0;cost 999;cost 5 if night;", 3);
        fault("cost 1000;", 5);
        fault("cost;", 4);
        fault("cost if night;", 5);
        fault("cost 5 if;", 9);
        fault("cost 5 if if night;", 10);
        fault("cost 5 count;", 7);
    }

    @Says({"KINDS count [ if COND ] | KINDS fail [ if COND ]", "KINDS: KIND { and KIND }",
        "KIND: theft | blow | killing | debt | oath | treason | any"})
    static void promise12_kinds() {
        good("theft count;blow fail;killing count;debt fail;oath count;treason fail;any count;", 7);
        good("theft and blow and killing and debt and oath and treason and any and theft fail if night;", 1);
        fault("theft", 5);
        fault("theft;", 5);
        fault("theft and", 9);
        fault("theft and;", 9);
        fault("theft and mile count;", 10);
        fault("theft or blow count;", 6);
        fault("theft blow count;", 6);
        fault("theft count blow;", 12);
        fault("theft count if;", 14);
        fault("and theft count;", 0);
        fault("count theft;", 0);
        fault("night count;", 0);
        fault("thefts count;", 0);
    }

    private static final String[] ALL_WORDS = {"mile", "measure", "lanes", "straight", "forty", "cost", "if", "count", "fail", "and", "or",
        "not", "above", "theft", "blow", "killing", "debt", "oath", "treason", "any", "age", "times", "degree", "inside", "night",
        "against", ";", "(", ")", "3", "king", ",", "1000"};
    private static final String KIND = " theft blow killing debt oath treason any ", LINE = " mile measure forty cost" + KIND;
    private static final String ONE = " not age times degree inside night against ";
    /** Behind which words which ones can stand. */
    private static final String[][] CAN_STAND = {{"", LINE}, {"mile 3;", LINE}, {"any fail if night;", LINE}, {"mile", " 3 "},
        {"mile 3", " ; "}, {"measure", " lanes straight "}, {"measure lanes", " ; "}, {"measure straight", " ; "}, {"forty", " 3 "},
        {"forty 3", " ; "}, {"cost", " 3 "}, {"cost 3", " ; if "}, {"cost 3 if", ONE + "( "}, {"theft", " and count fail "},
        {"theft and any", " and count fail "}, {"theft and", KIND}, {"theft count", " ; if "}, {"any fail", " ; if "},
        {"any count if", ONE + "( "}, {"any fail if not", ONE + "( "}, {"any fail if age", " above "}, {"any fail if times", " above "},
        {"any fail if degree", " above "}, {"any fail if age above", " 3 "}, {"any fail if age above 3", " and or ; "},
        {"any fail if inside", " and or ; "}, {"any fail if night", " and or ; "}, {"any fail if against", " and or ; "},
        {"any fail if night and", ONE + "( "}, {"any fail if night or", ONE + "( "}, {"any fail if (", ONE + "( "},
        {"any fail if ((((", ONE}, {"any fail if (night", " and or ) "}, {"any fail if (times above 3", " and or ) "},
        {"any fail if (night)", " and or ; "}, {"any fail if ((night)", " and or ) "}};

    @Says("of the first NAME, NUMBER or other byte that can't stand there")
    static void promise12_whatCanStandWhere() {
        for (String[] behind : CAN_STAND) {
            for (String word : ALL_WORDS) {
                String text = behind[0] + " " + word;
                boolean can = behind[1].contains(" " + word + " ");
                // What can stand there is followed by the end, where more must come, unless it is a whole TEXT.
                if (can && word.equals(";")) good(text, 1);
                else fault(text, can ? text.length() : behind[0].length() + 1);
            }
        }
    }

    @Says({"COND: ALL { or ALL }", "ALL: ONE { and ONE }"})
    static void promise12_conditionsJoined() {
        good("any fail if night or night and night or night;", 1);
        fault("any fail if night or", 20);
        fault("any fail if night or;", 20);
        fault("any fail if or night;", 12);
        fault("any fail if night and or night;", 22);
        fault("any fail if night night;", 18);
        fault("any fail if night, night;", 17);
        StringBuilder longest = new StringBuilder("any fail if night");
        for (int i = 0; i < 31; i++) longest.append(" or night");
        good(longest.append(" ".repeat(3)).append(';').toString(), 1);
    }

    @Says({"ONE: { not } ( FACT above N | inside | night | against |", "FACT: age | times | degree"})
    static void promise12_facts() {
        good("any fail if age above 0 or times above 999 or degree above 5 or inside or night or against;", 1);
        good("any fail if " + "not ".repeat(70) + "night;", 1);
        fault("any fail if not;", 15);
        fault("any fail if not not", 19);
        fault("any fail if night not;", 18);
        fault("any fail if age;", 15);
        fault("any fail if age above;", 21);
        fault("any fail if age above", 21);
        fault("any fail if age above 1000;", 22);
        fault("any fail if times above x;", 24);
        fault("any fail if degree 3;", 19);
        fault("any fail if above 3;", 12);
        fault("any fail if inside above 3;", 19);
        fault("any fail if mile above 3;", 12);
    }

    @Says({"| \"(\" COND \")\" )", "At most 4 \"(\" are open within one another.", "the fifth \"(\","})
    static void promise12_fourOpen() {
        good("any fail if (night);", 1);
        good("any fail if ((((night))));", 1);
        good("any fail if ((((night)))) or ((((night)))) and not(not(not(not(night))));", 1);
        good("any fail if (((night)and(night))or((night)or(night)))and(((night)));", 1);
        fault("any fail if (((((night)))));", 16);
        fault("any fail if ( ( ( ( ( night)))));", 20);
        fault("any fail if ((((night)) or (((night;", 29);
        fault("any fail if ((((not(night)))));", 19);
        fault("any fail if ();", 13);
        fault("any fail if (night;", 18);
        fault("any fail if (night", 18);
        fault("any fail if (night));", 19);
        fault("any fail if night);", 17);
        fault("any fail if ) night;", 12);
    }

    @Says({"NAMES are rows of letters a to z, NUMBERS rows of digits (1 to 3), both as long as they go",
        "(a NUMBER that is not as told,"})
    static void promise12_namesAndNumbers() {
        fault("milemile 3;", 0);
        fault("mil e 3;", 0);
        fault("milez 3;", 0);
        fault("amile 3;", 0);
        fault("z", 0);
        fault(";".repeat(300), 0);
        fault("Mile 3;", 0);
        fault("mIle 3;", 0);
        fault("MILE 3;", 0);
        fault("mile`3;", 4);
        fault("mile{3;", 4);
        fault("mile/3;", 4);
        fault("mile:3;", 4);
        fault("mile 3/;", 6);
        fault("mile 3:;", 6);
        fault("mile 0003;", 5);
        fault("mile 1 8;", 7);
        fault("forty 0999;", 6);
        fault("cost 00000000000000000000000000000000000001;", 5);
        fault("cost 99999999999999999999;", 5);
        fault("any fail if age above 4294967297;", 22);
    }

    @Says("blanks (32) part them, and stand elsewhere as one likes.")
    static void promise12_blanks() {
        good("  mile   3  ;  measure   lanes ;any   fail   if  (  night  )  ;   ", 3);
        good("any fail if(night)and(inside)or not(against);", 1);
        fault("mile\t3;", 4);
        fault("mile\n3;", 4);
        fault("\u00a0mile 3;", 0);
        fault("mile 3;\0", 7);
        fault("mile 3;\u001f", 7);
        fault("mile 3;!", 7);
        fault("mile 3;\u00ff", 7);
    }

    @Says("FAULT: the place (from 0) of the first byte of the first NAME, NUMBER or other byte that can't stand there")
    static void promise12_theFirstFault() {
        fault("x mile 19; (", 0);
        fault("mile 3; mile 19; (", 13);
        fault("mile 3; night; (", 8);
        fault("3 mile;", 0);
        fault("  3;", 2);
        fault("mile mile;", 5);
        fault("mile ;", 5);
        fault(" ".repeat(299) + ";", 299);
        fault(" ".repeat(299) + "x", 299);
        fault("mile 3;" + " ".repeat(285) + "mile 19;", 297);
    }

    @Says("or the end (how many bytes there are), if more must come.")
    static void promise12_theEnd() {
        fault("mile", 4);
        fault("mile ", 5);
        fault("mile 3", 6);
        fault("mile 3  ", 8);
        fault("mile 3; mile 3", 14);
        fault(" ".repeat(296) + "mile", 300);
        fault(" ".repeat(294) + "mile 3", 300);
        fault("any fail if (night)" + " ".repeat(281), 300);
        // What is cut off within its last NAME or NUMBER is looked at as it is then.
        fault("mil", 0);
        fault("mile 3; measur", 8);
        String text = "theft and any fail if not ( age above 12 or inside ) ;";
        for (int end = 1; end < text.length(); end++) {
            String cut = text.substring(0, end);
            String last = cut.substring(cut.lastIndexOf(' ') + 1);
            boolean isWhole = last.isEmpty() || end == text.length() || text.charAt(end) == ' ' || last.equals("1");
            fault(cut, isWhole ? end : end - last.length());
        }
    }

    @Says({"in force from NOW on, till ahead of the HOUR at which that CHARTER is read anew or STRUCK.",
        "In force at an HOUR: LINES of all VERSIONS then, by CHARTERS, then as they stand."})
    static void promise12_inForceFromTill() {
        PeaceRing r = new PeaceRing();
        r.hours(5);
        Check.read(r, 0, "mile 7;");
        r.hours(5);
        Check.read(r, 0, "mile 8;");
        r.hours(5);
        r.strike(0);
        all(of(r.rule(0, 0), r.rule(4, 0), r.rule(5, 0), r.rule(9, 0), r.rule(10, 0), r.rule(14, 0), r.rule(15, 0), r.rule(9999, 0)),
            3, 3, 7, 7, 8, 8, 3, 3);
        all(of(r.version(0, 2), r.version(0, 3), r.version(1, 2), r.version(1, 3)), 5, 10, 10, 15);
    }

    @Says("till ahead of the HOUR at which that CHARTER is read anew or STRUCK.")
    static void promise12_readTwiceInAnHour() {
        PeaceRing r = new PeaceRing();
        Check.read(r, 0, "mile 7; forty 5;");
        Check.read(r, 0, "mile 8;");
        // The first one was never in force, not even at that HOUR.
        all(of(r.rule(0, 0), r.rule(0, 2), r.version(0, 2), r.version(0, 3), r.version(1, 3)), 8, 40, 0, 0, NONE);
        r.strike(0);
        all(of(r.rule(0, 0), r.version(1, 2), r.version(1, 3)), 3, 0, 0);
    }

    @Says("A CHARTER that is read is a VERSION")
    static void promise12_manyLongConditionsOneAfterAnother() {
        PeaceRing r = new PeaceRing();
        r.person(0, 1);
        r.hours(10);
        r.deed(0, 0, -1, 10, 0, 10);
        StringBuilder text = new StringBuilder("any fail if night");
        while (text.length() < 250) text.append(" or not night and night");
        String never = text.append(" or against;").toString();
        // Each reads as if it was the first: it does not hold on the DEED; with one word more it does.
        for (int v = 0; v < 11; v++) {
            due(Check.read(r, v % 3, never), v);
            due(r.counts(0, 0, 10), 1);
        }
        due(Check.read(r, 2, never.replace("against", "not night")), 11);
        all(of(r.counts(0, 0, 10), r.line(0, 0, 10)), 0, 1100);
    }

    // ---- 13: strike

    @Says("A CHARTER is STRUCK: the VERSION that was in force.")
    static void promise13_theVersionInForce() {
        PeaceRing r = twelve();
        all(of(r.strike(0), r.strike(1), r.strike(2), r.many(3)), 9, 10, 11, 12);
        all(of(r.version(9, 3), r.version(10, 3), r.version(11, 3), r.rule(0, 0)), 0, 0, 0, 3);
    }

    @Says("BAD: there is no such CHARTER")
    static void promise13_noSuchCharter() {
        refused(BAD, RICH, r -> r.strike(-1), r -> r.strike(3), r -> r.strike(LOW), r -> r.strike(HIGH));
    }

    @Says("NONE: it has none in force NOW.")
    static void promise13_noneInForce() {
        refused(NONE, FRESH, r -> r.strike(0), r -> r.strike(1), r -> r.strike(2));
        // CHARTER 2 is STRUCK already.
        refused(NONE, RICH, r -> r.strike(2));
        PeaceRing r = rich();
        all(of(r.strike(1), r.strike(1), Check.read(r, 1, ""), r.strike(1)), 1, NONE, -106, NONE);
        all(of(Check.read(r, 1, ""), r.strike(1), r.strike(1)), 3, 3, NONE);
    }

    @Says("NONE: it has none in force NOW.")
    static void promise13_whatAgainTookAwayIsNotInForce() {
        PeaceRing r = new PeaceRing();
        r.keep();
        for (int charter = 0; charter < 3; charter++) {
            Check.read(r, charter, "mile 7;");
            r.again();
            all(of(r.strike(0), r.strike(1), r.strike(2), r.rule(0, 0), r.many(3)), NONE, NONE, NONE, 3, 0);
        }
    }

    // ---- 14: version

    @Says("Of a VERSION: what = 0 CHARTER, 1 how many LINES, 2 from which HOUR in force, 3 from which no more (NONE),")
    static void promise14_fourThings() {
        PeaceRing r = rich();
        int[][] due = {{0, 3, 0, NONE}, {1, 2, 30, NONE}, {2, 1, 30, 30}};
        for (int v = 0; v < 3; v++) for (int what = 0; what < 4; what++) due(r.version(v, what), due[v][what]);
        r.hours(5);
        r.strike(0);
        all(of(r.version(0, 2), r.version(0, 3)), 0, 35);
    }

    @Says({"10 + i LINE i: 1000 times 0 mile, 1 lanes, 2 straight, 3 forty, 4 cost, 5 count, 6 fail",
        "and its N (of the first, forty, cost), or KINDS as bits (any: 64)."})
    static void promise14_lines() {
        PeaceRing r = by("mile 0; mile 18; forty 0; forty 999; cost 0; cost 999; measure lanes; measure straight;");
        for (int i = 0; i < 8; i++) due(r.version(0, 10 + i), of(0, 18, 3000, 3999, 4000, 4999, 1000, 2000)[i]);
        r = by("theft count; any fail; theft and blow and killing and debt and oath and treason and any count if night;"
            + "treason and theft and treason fail;");
        for (int i = 0; i < 4; i++) due(r.version(0, 10 + i), of(5001, 6064, 5127, 6033)[i]);
    }

    @Says("BAD: there is none such, another what.")
    static void promise14_noSuchVersionOrWhat() {
        // VERSIONS 0 to 2 have three, two and one LINES.
        refused(BAD, RICH, r -> r.version(-1, 0), r -> r.version(3, 0), r -> r.version(LOW, 0), r -> r.version(HIGH, 0),
            r -> r.version(0, -1), r -> r.version(0, 4), r -> r.version(0, 9), r -> r.version(0, 13), r -> r.version(1, 12),
            r -> r.version(2, 11), r -> r.version(0, LOW), r -> r.version(0, HIGH));
        PeaceRing r = by("mile 3;".repeat(10));
        all(of(r.version(0, 19), r.version(0, 20), by("").version(0, 10), twelve().version(11, 10), twelve().version(12, 0)),
            3, BAD, BAD, 11, BAD);
    }

    // ---- 15: rule

    @Says({"At an HOUR: what = 0 MILE, 1 MEASURE (0 lanes, 1 straight), 2 FORTY.", "(3, lanes, 40 without)."})
    static void promise15_withoutLines() {
        PeaceRing r = new PeaceRing();
        all(of(r.rule(0, 0), r.rule(0, 1), r.rule(0, 2), r.rule(9999, 0), r.rule(9999, 1), r.rule(9999, 2)), 3, 0, 40, 3, 0, 40);
        Check.read(r, 1, "any fail; cost 5;");
        all(of(r.rule(0, 0), r.rule(0, 1), r.rule(0, 2)), 3, 0, 40);
    }

    @Says("MILE, MEASURE, FORTY: by the last LINE that tells it")
    static void promise15_theLastLineTells() {
        PeaceRing r = new PeaceRing();
        Check.read(r, 2, "mile 1; mile 2;");
        Check.read(r, 0, "mile 5; measure straight; forty 0;");
        Check.read(r, 1, "measure lanes; measure straight; measure lanes;");
        all(of(r.rule(0, 0), r.rule(0, 1), r.rule(0, 2)), 2, 0, 0);
        r.strike(2);
        r.strike(1);
        all(of(r.rule(0, 0), r.rule(0, 1), r.rule(0, 2)), 5, 1, 0);
    }

    @Says("MILE, MEASURE, FORTY: by the last LINE that tells it")
    static void promise15_allLinesOfThreeCharters() {
        PeaceRing r = new PeaceRing();
        for (int charter : of(2, 1, 0)) Check.read(r, charter, "mile 1;".repeat(9) + "mile 1" + charter + ";");
        due(r.rule(0, 0), 12);
        r.strike(2);
        due(r.rule(0, 0), 11);
    }

    @Says("BAD: there is no such HOUR, what.")
    static void promise15_noSuchHourOrWhat() {
        refused(BAD, RICH, r -> r.rule(-1, 0), r -> r.rule(10000, 0), r -> r.rule(LOW, 0), r -> r.rule(HIGH, 0), r -> r.rule(0, -1),
            r -> r.rule(0, 3), r -> r.rule(0, LOW), r -> r.rule(0, HIGH));
    }
}
