/** Each promise of the document by its number: what is ordinary, the edges that it names, and what it refuses. */
public final class PromisesTest {
    private static final int BAD = -1, FULL = -2, NONE = -3, STATE = -4;
    private static final int LOW = Integer.MIN_VALUE, HIGH = Integer.MAX_VALUE;
    private static final Check c = new Check();

    public static void main(String[] args) throws Exception {
        for (int promise = 1; promise <= 56; promise++) {
            c.about("promise " + promise);
            PromisesTest.class.getDeclaredMethod("promise" + promise).invoke(null);
        }
        c.end();
    }

    // ---- ground, persons, stones

    static void promise1() {
        PeaceRing r = new PeaceRing();
        for (int what = 0; what <= 13; what++) c.due(r.many(what), 0);
        for (int cell = 0; cell < 100; cell++) c.due(r.ground(cell, 0), 0);
        c.due(r.again(), NONE);
        c.due(r.judge(), NONE);
        c.due(r.read(0), 0);
        c.all(new int[] {PeaceRing.BAD, PeaceRing.FULL, PeaceRing.NONE, PeaceRing.STATE}, BAD, FULL, NONE, STATE);
        c.all(new int[] {r.port(0, 0, 5), r.port(4, 1, 7), r.port(2, 2, 0)}, 5, 7, 0);
        c.all(new int[] {r.item(0, 0, 0), r.taken(3, 0), r.trace(0), r.row(0, 0)}, -11, -11, NONE, -9);
    }

    static void promise2() {
        PeaceRing r = new PeaceRing();
        c.all(new int[] {r.hours(1), r.hours(100), r.hours(0), r.hours(101), r.hours(-1), r.hours(LOW), r.hours(HIGH)},
            1, 101, BAD, BAD, BAD, BAD, BAD);
        Check.pass(r, 9800);
        c.all(new int[] {r.hours(99), r.hours(98), r.hours(1), r.many(0)}, STATE, 9999, STATE, 9999);
        c.due(r.hours(101), BAD);
        runnersStepByTheHour();
        runnersAreMetOrReach();
        bellsAreTold();
    }

    private static void runnersStepByTheHour() {
        PeaceRing r = new PeaceRing();
        r.person(55, 1);
        r.person(0, 3);
        r.aim(0, 66);
        r.aim(1, 22);
        r.hours(1);
        // Of CELLS from which the WAY is one less the least: 56, not 65; then for the other 1, 2, 12.
        c.all(new int[] {r.personOf(0, 0), r.personOf(1, 0)}, 56, 12);
        r.hours(1);
        c.all(new int[] {r.personOf(0, 0), r.personOf(0, 4), r.personOf(0, 6)}, 66, NONE, 1);
        c.all(new int[] {r.personOf(1, 0), r.personOf(1, 6), r.many(7)}, 22, 1, 0);
        PeaceRing onward = new PeaceRing();
        onward.person(0, 1);
        onward.person(0, 4);
        onward.aim(0, 99);
        onward.aim(1, 99);
        onward.hours(3);
        c.all(new int[] {onward.personOf(0, 0), onward.personOf(1, 0), onward.many(7)}, 3, 39, 2);
        onward.hours(100);
        c.all(new int[] {onward.personOf(0, 0), onward.personOf(1, 0), onward.many(7), onward.many(0)}, 99, 99, 0, 103);
        PeaceRing shut = new PeaceRing();
        shut.person(0, 4);
        shut.ground(1, 1);
        shut.ground(10, 1);
        shut.aim(0, 99);
        shut.hours(5);
        c.all(new int[] {shut.personOf(0, 0), shut.personOf(0, 4), shut.many(7)}, 0, 99, 1);
        shut.ground(10, 0);
        shut.hours(1);
        c.due(shut.personOf(0, 0), 13);
    }

    private static void runnersAreMetOrReach() {
        PeaceRing r = new PeaceRing();
        r.person(0, 4);
        r.post(3, 0, 1, 1);
        r.post(3, 0, 2, 2);
        r.post(2, 1, 1, 1);
        r.aim(0, 3);
        r.hours(1);
        // CELL 1 is 1 FAR from 2: only POST 2 sees it.
        c.all(new int[] {r.personOf(0, 0), r.personOf(0, 5), r.personOf(0, 4), r.personOf(0, 6)}, 1, 2, NONE, 0);
        r.aim(0, 3);
        r.hours(1);
        // At AIM, but a POST sees it: MET, not REACHED.
        c.all(new int[] {r.personOf(0, 0), r.personOf(0, 5), r.personOf(0, 6)}, 3, 1, 0);
        r.aim(0, 5);
        r.hours(1);
        c.all(new int[] {r.personOf(0, 0), r.personOf(0, 5), r.personOf(0, 6)}, 5, 1, 1);
        PeaceRing start = new PeaceRing();
        start.person(0, 1);
        start.post(0, 0, 0, 23);
        start.aim(0, 2);
        start.hours(1);
        // Where one starts nobody is MET.
        c.all(new int[] {start.personOf(0, 0), start.personOf(0, 5), start.personOf(0, 4)}, 1, NONE, 2);
    }

    private static void bellsAreTold() {
        PeaceRing r = new PeaceRing();
        r.person(0, 1);
        r.person(2, 1);
        r.person(4, 1);
        r.bell(0, 0);
        r.aim(0, 2);
        r.hours(1);
        c.all(new int[] {r.heard(0, 0), r.heard(1, 0), r.heard(2, 0)}, 0, NONE, NONE);
        r.hours(1);
        // Behind RUNNERS: who comes tells at the same HOUR.
        c.all(new int[] {r.heard(0, 0), r.heard(1, 0), r.heard(2, 0)}, 0, 2, NONE);
        r.move(2, 2);
        c.due(r.heard(2, 0), NONE);
        r.hours(40);
        c.all(new int[] {r.heard(1, 0), r.heard(2, 0)}, 2, 3);
        PeaceRing back = new PeaceRing();
        back.person(0, 1);
        back.person(0, 1);
        back.person(3, 1);
        back.bell(3, 0);
        back.aim(2, 0);
        back.hours(20);
        c.all(new int[] {back.heard(0, 0), back.heard(1, 0), back.heard(2, 0)}, 3, 3, 0);
    }

    static void promise3() {
        PeaceRing r = new PeaceRing();
        c.all(new int[] {r.ground(5, 3), r.ground(5, 2), r.ground(5, 1), r.ground(5, 0), r.ground(5, 0)}, 0, 3, 2, 1, 0);
        c.all(new int[] {r.ground(-1, 0), r.ground(100, 0), r.ground(0, -1), r.ground(0, 4), r.ground(HIGH, 0)},
            BAD, BAD, BAD, BAD, BAD);
        r.person(1, 1);
        r.stone(2, 1);
        r.post(3, 0, 0, 0);
        c.all(new int[] {r.ground(1, 1), r.ground(2, 1), r.ground(3, 1), r.ground(99, 1)}, STATE, STATE, STATE, 0);
        c.all(new int[] {r.ground(1, 2), r.ground(2, 3), r.ground(3, 2), r.ground(1, 0)}, 0, 0, 0, 2);
        r.move(0, 4);
        c.all(new int[] {r.ground(1, 1), r.ground(4, 1), r.ground(1, 9)}, 0, STATE, BAD);
    }

    static void promise4() {
        PeaceRing r = new PeaceRing();
        c.all(new int[] {r.between(0, 99, 0), r.between(0, 99, 1), r.between(9, 10, 0), r.between(9, 10, 1)}, 18, 18, 10, 10);
        c.all(new int[] {r.between(7, 7, 0), r.between(7, 7, 1)}, 0, 0);
        r.ground(1, 1);
        r.ground(11, 1);
        c.all(new int[] {r.between(0, 2, 0), r.between(2, 0, 0), r.between(0, 2, 1)}, 6, 6, 2);
        c.all(new int[] {r.between(0, 1, 0), r.between(1, 0, 0), r.between(1, 1, 0), r.between(0, 1, 1)}, NONE, NONE, NONE, 1);
        r.ground(20, 1);
        r.ground(10, 1);
        c.all(new int[] {r.between(0, 2, 0), r.between(0, 0, 0)}, NONE, 0);
        c.all(new int[] {r.between(-1, 0, 0), r.between(0, 100, 1), r.between(0, 0, 2), r.between(0, 0, -1)}, BAD, BAD, BAD, BAD);
    }

    static void promise5() {
        PeaceRing r = new PeaceRing();
        r.ground(50, 1);
        c.all(new int[] {r.person(-1, 1), r.person(100, 1), r.person(0, 0), r.person(0, 5), r.person(50, 1), r.person(50, 0)},
            BAD, BAD, BAD, BAD, STATE, BAD);
        for (int p = 0; p < 16; p++) c.due(r.person(p, 1 + p % 4), p);
        c.all(new int[] {r.person(0, 1), r.person(50, 1), r.person(0, 0), r.many(1)}, FULL, STATE, BAD, 16);
        c.all(new int[] {r.personOf(15, 0), r.personOf(15, 1), r.personOf(15, 2)}, 15, 4, 0);
    }

    static void promise6() {
        PeaceRing r = new PeaceRing();
        r.ground(50, 1);
        r.person(3, 1);
        r.aim(0, 9);
        c.all(new int[] {r.move(0, 50), r.personOf(0, 4), r.move(0, 4), r.personOf(0, 4), r.personOf(0, 0), r.move(0, 4)},
            STATE, 9, 3, NONE, 4, 4);
        c.all(new int[] {r.move(1, 0), r.move(-1, 0), r.move(0, -1), r.move(0, 100), r.move(1, 50)}, BAD, BAD, BAD, BAD, BAD);
    }

    static void promise7() {
        PeaceRing r = new PeaceRing();
        r.person(7, 2);
        c.all(of(r, 0), 7, 2, 0, 0, NONE, NONE, 0, NONE, 0, 0);
        c.all(new int[] {r.personOf(1, 0), r.personOf(-1, 0), r.personOf(0, -1), r.personOf(0, 10)}, BAD, BAD, BAD, BAD);
        r.stone(7, 2);
        r.deed(0, 0, -1, 0, 0, 0);
        r.deed(0, 1, -1, 0, 0, 500);
        r.hours(3);
        r.seek(0);
        c.all(of(r, 0), 7, 2, 1, 3, NONE, NONE, 0, NONE, 0, 2);
        r.hours(2);
        r.swear(0);
        r.leave(0, 4);
        r.aim(0, 9);
        c.all(of(r, 0), 7, 2, 3, 5, 9, NONE, 0, 4, 0, 2);
        r.hours(1);
        c.all(of(r, 0), 9, 2, 3, 5, NONE, NONE, 1, 4, 0, 2);
        // REACHED tells of the latest AIM, MET of the latest POST.
        r.post(8, 0, 7, 7);
        r.aim(0, 7);
        c.due(r.personOf(0, 6), 0);
        r.hours(1);
        c.all(of(r, 0), 8, 2, 3, 5, NONE, 0, 0, 4, 0, 2);
        r.person(0, 1);
        r.take(1, 0);
        c.all(of(r, 0), 8, 2, 6, 7, NONE, 0, 0, 4, 0, 2);
        c.due(r.personOf(1, 8), 20);
    }

    private static int[] of(PeaceRing r, int person) {
        int[] all = new int[10];
        for (int what = 0; what < 10; what++) all[what] = r.personOf(person, what);
        return all;
    }

    static void promise8() {
        PeaceRing r = new PeaceRing();
        r.ground(50, 1);
        c.all(new int[] {r.stone(-1, 1), r.stone(100, 1), r.stone(0, 0), r.stone(0, 10), r.stone(50, 1), r.stone(50, 0)},
            BAD, BAD, BAD, BAD, STATE, BAD);
        c.all(new int[] {r.stone(0, 1), r.stone(0, 9), r.stone(1, 5), r.stone(2, 5), r.stone(3, 5), r.stone(4, 5)},
            0, 1, 2, 3, 4, 5);
        c.all(new int[] {r.stone(5, 1), r.stone(50, 1), r.stone(5, 0), r.many(2)}, FULL, STATE, BAD, 6);
    }

    static void promise9() {
        PeaceRing r = new PeaceRing();
        r.stone(33, 5);
        r.stone(36, 2);
        c.all(new int[] {r.within(33, 0), r.within(34, 9999), r.within(30, 0), r.within(39, 0), r.within(63, 0)}, 3, 3, 1, 2, 1);
        c.all(new int[] {r.within(29, 0), r.within(99, 0), r.within(37, 0)}, 0, 0, 2);
        r.ground(34, 1);
        c.all(new int[] {r.within(35, 0), r.within(34, 0)}, 2, 0);
        r.hours(5);
        Check.read(r, 2, "measure straight;mile 2;");
        c.all(new int[] {r.within(35, 5), r.within(34, 5), r.within(35, 4), r.within(30, 5)}, 3, 3, 2, 0);
        Check.read(r, 2, "mile 0;");
        c.all(new int[] {r.within(33, 5), r.within(43, 5)}, 1, 0);
        c.all(new int[] {r.within(-1, 0), r.within(100, 0), r.within(0, -1), r.within(0, 10000)}, BAD, BAD, BAD, BAD);
    }

    static void promise10() {
        PeaceRing r = new PeaceRing();
        r.stone(55, 2);
        r.stone(57, 4);
        r.stone(55, 3);
        r.ground(56, 2);
        r.ground(54, 3);
        r.ground(11, 3);
        c.all(new int[] {r.degree(55, 0), r.degree(56, 0), r.degree(54, 0), r.degree(53, 0), r.degree(11, 0)}, 4, 5, 7, 3, 0);
        c.all(new int[] {r.degree(-1, 0), r.degree(100, 0), r.degree(0, -1), r.degree(0, 10000)}, BAD, BAD, BAD, BAD);
        r.ground(56, 1);
        c.all(new int[] {r.degree(55, 0), r.degree(56, 0), r.degree(54, 0)}, 3, 0, 6);
        Check.read(r, 0, "measure straight;");
        c.due(r.degree(56, 0), 4);
    }

    // ---- charters

    static void promise11() {
        PeaceRing r = new PeaceRing();
        c.all(new int[] {r.feed(0x3b30_656c_696dL, 6), r.feed(0L, 0), r.feed(0L, 9), r.feed(0L, -1), r.feed(0L, LOW)},
            6, BAD, BAD, BAD, BAD);
        c.all(new int[] {r.read(0), r.version(0, 10), r.many(11)}, 0, 0, 0);
        // Only the lowest n bytes come, the lowest first; the uppermost is a byte as well.
        c.all(new int[] {r.feed(0xffff_3b31_2065_6c69L << 8 | 'm', 8), r.many(11), r.read(0)}, 8, 8, -107);
        for (int n = 8; n <= 296; n += 8) c.due(r.feed(-1L, 8), n);
        c.all(new int[] {r.feed(0L, 5), r.many(11), r.feed(0L, 4), r.feed(0L, 1), r.feed(0L, 9)}, FULL, 296, 300, FULL, BAD);
        c.due(r.many(11), 300);
    }

    static void promise12() {
        PeaceRing r = new PeaceRing();
        Check.feed(r, "mile 4;");
        c.all(new int[] {r.read(-1), r.many(11), r.read(3), r.many(3)}, BAD, 0, BAD, 0);
        goodTexts();
        faultsOfLines();
        faultsOfConditions();
        Check.feed(r, "mile");
        c.due(r.read(3), BAD);
        for (int v = 0; v < 12; v++) c.due(Check.read(r, v % 3, "forty " + v + ";"), v);
        c.all(new int[] {Check.read(r, 0, "forty 3"), r.many(11)}, -107, 0);
        c.all(new int[] {Check.read(r, 0, "forty 3;"), r.many(11), r.many(3), r.rule(0, 2)}, FULL, 0, 12, 11);
    }

    private static void goodTexts() {
        String[] good = {"", "   ", "mile 0;mile 18;mile 018;", "mile3;", "  mile  7 ;  ", "measure lanes;measure straight;",
            "forty 0;forty 999;forty 007;", "cost 0;cost 999 if night;", "any count;any and any and theft fail;",
            "theft and blow and killing and debt and oath and treason and any count if inside;",
            "oath fail if not not not against;", "any fail if age above 0 and times above 999 or degree above 12;",
            "any fail if(((( night ))))or(inside)and not(against or not(night));",
            "cost 1;cost 1;cost 1;cost 1;cost 1;cost 1;cost 1;cost 1;cost 1;cost 1; "};
        PeaceRing r = new PeaceRing();
        r.keep();
        for (String text : good) {
            c.due(Check.read(r, 0, text), 0);
            r.again();
        }
        StringBuilder longest = new StringBuilder("any fail if night");
        while (longest.length() < 284) longest.append(" or not night");
        c.due(Check.read(r, 0, longest + ";"), 0);
        c.due(Check.read(r, 0, "mile 3;" + " ".repeat(293)), 1);
        c.due(Check.read(r, 0, " ".repeat(293) + "mile 4;"), 2);
        c.due(Check.read(r, 0, ";".repeat(300)), -100);
        c.due(Check.read(r, 0, "mile 3;" + "(".repeat(293)), -107);
        c.due(Check.read(r, 0, "any and ".repeat(37) + "any"), -399);
    }

    private static void fault(String text, int place) {
        PeaceRing r = new PeaceRing();
        c.due(Check.read(r, 0, text), -100 - place);
        c.all(new int[] {r.many(3), r.many(11)}, 0, 0);
    }

    private static void faultsOfLines() {
        fault("mile", 4);
        fault("mile  ", 6);
        fault("mile 19;", 5);
        fault("mile 0001;", 5);
        fault("mile x;", 5);
        fault("mile 3", 6);
        fault("mile 3 4;", 7);
        fault("miles 3;", 0);
        fault("milez 3;", 0);
        fault("mile{ 3;", 4);
        fault("mile 3:;", 6);
        fault("mile 3/;", 6);
        fault("Mile 3;", 0);
        fault(" ;", 1);
        fault("3;", 0);
        fault("mile 3;;", 7);
        fault("mile 3;\tmile 3;", 7);
        fault("mile 3;\u00e9", 7);
        fault("mile 3;\0", 7);
        fault("measure;", 7);
        fault("measure wide;", 8);
        fault("measure lanes straight;", 14);
        fault("forty 1000;", 6);
        fault("cost;", 4);
        fault("cost 5 if", 9);
        fault("cost 5 night;", 7);
        fault("forty 5 if night;", 8);
        fault("mile 5 if night;", 7);
        fault("theft;", 5);
        fault("theft blow count;", 6);
        fault("theft and count;", 10);
        fault("theft and", 9);
        fault("count;", 0);
        fault("any count fail;", 10);
        fault("any and any;", 11);
        fault("(any) count;", 0);
        fault("cost 1;cost 1;cost 1;cost 1;cost 1;cost 1;cost 1;cost 1;cost 1;cost 1; cost 1;", 71);
        fault("cost 1;cost 1;cost 1;cost 1;cost 1;cost 1;cost 1;cost 1;cost 1;cost 1;x", 70);
    }

    private static void faultsOfConditions() {
        fault("any fail if;", 11);
        fault("any fail if not;", 15);
        fault("any fail if age 5;", 16);
        fault("any fail if age above;", 21);
        fault("any fail if age above 1000;", 22);
        fault("any fail if age above night;", 22);
        fault("any fail if inside above 5;", 19);
        fault("any fail if night night;", 18);
        fault("any fail if night and;", 21);
        fault("any fail if night or;", 20);
        fault("any fail if night not;", 18);
        fault("any fail if (night;", 18);
        fault("any fail if night);", 17);
        fault("any fail if ();", 13);
        fault("any fail if theft;", 12);
        fault("any fail if above 3;", 12);
        fault("any fail if 3;", 12);
        fault("any fail if (((((night)))));", 16);
        fault("any fail if ((((night)))) or ((((", 33);
        fault("any fail if if night;", 12);
        fault("any fail if nightor night;", 12);
    }

    static void promise13() {
        PeaceRing r = new PeaceRing();
        c.all(new int[] {r.strike(0), r.strike(-1), r.strike(3)}, NONE, BAD, BAD);
        Check.read(r, 0, "mile 4;");
        Check.read(r, 1, "mile 5;");
        r.hours(6);
        c.all(new int[] {r.strike(0), r.version(0, 3), r.strike(0), r.strike(2), r.rule(6, 0)}, 0, 6, NONE, NONE, 5);
        c.all(new int[] {r.strike(1), r.rule(5, 0), r.rule(6, 0)}, 1, 5, 3);
        Check.read(r, 0, "mile 6;");
        c.all(new int[] {r.version(0, 3), r.version(2, 2), r.strike(0), r.rule(6, 0)}, 6, 6, 2, 3);
    }

    static void promise14() {
        PeaceRing r = new PeaceRing();
        Check.read(r, 2, "mile 18; measure lanes; measure straight; forty 12; cost 345 if night;"
            + "theft and oath count; treason and any fail; any count; blow and killing fail; debt fail if inside;");
        c.all(new int[] {r.version(0, 0), r.version(0, 1), r.version(0, 2), r.version(0, 3)}, 2, 10, 0, NONE);
        int[] lines = new int[10];
        for (int i = 0; i < 10; i++) lines[i] = r.version(0, 10 + i);
        c.all(lines, 18, 1000, 2000, 3012, 4345, 5017, 6096, 5064, 6006, 6008);
        Check.read(r, 2, "theft count; blow count; killing count; debt count; oath count; treason count; any count;");
        for (int i = 0; i < 7; i++) c.due(r.version(1, 10 + i), 5000 + (1 << i));
        r = new PeaceRing();
        Check.read(r, 2, "mile 1; forty 2; cost 3; any count; any fail; mile 1; forty 2; cost 3; any count; any fail;");
        r.hours(4);
        Check.read(r, 2, "cost 7;");
        c.all(new int[] {r.version(0, 3), r.version(1, 2), r.version(1, 3), r.version(1, 1), r.version(1, 10)}, 4, 4, NONE, 1, 4007);
        c.all(new int[] {r.version(1, 11), r.version(0, 20), r.version(0, 4), r.version(0, 9), r.version(0, -1)},
            BAD, BAD, BAD, BAD, BAD);
        c.all(new int[] {r.version(2, 0), r.version(-1, 0), r.version(0, LOW), r.version(0, HIGH)}, BAD, BAD, BAD, BAD);
    }

    static void promise15() {
        PeaceRing r = new PeaceRing();
        c.all(new int[] {r.rule(0, 0), r.rule(9999, 1), r.rule(0, 2)}, 3, 0, 40);
        Check.read(r, 2, "mile 9;");
        Check.read(r, 0, "mile 1; measure straight; forty 1; mile 2;");
        c.all(new int[] {r.rule(0, 0), r.rule(0, 1), r.rule(0, 2)}, 9, 1, 1);
        r.hours(10);
        Check.read(r, 1, "measure lanes; forty 5;");
        r.strike(2);
        c.all(new int[] {r.rule(9, 0), r.rule(9, 1), r.rule(9, 2)}, 9, 1, 1);
        c.all(new int[] {r.rule(10, 0), r.rule(10, 1), r.rule(9999, 2)}, 2, 0, 5);
        Check.read(r, 0, "");
        c.all(new int[] {r.rule(10, 0), r.rule(10, 1), r.rule(9, 0)}, 3, 0, 9);
        c.all(new int[] {r.rule(-1, 0), r.rule(10000, 0), r.rule(0, -1), r.rule(0, 3)}, BAD, BAD, BAD, BAD);
        r = new PeaceRing();
        String ten = "any fail;".repeat(8);
        for (int charter = 0; charter < 3; charter++) Check.read(r, charter, ten + "forty " + charter + "; mile " + charter + ";");
        c.all(new int[] {r.rule(0, 0), r.rule(0, 2)}, 2, 2);
    }

    // ---- deeds

    static void promise16() {
        PeaceRing r = new PeaceRing();
        r.person(0, 1);
        r.person(1, 1);
        r.hours(10);
        c.all(new int[] {r.deed(2, 0, -1, 0, 0, 0), r.deed(-1, 0, -1, 0, 0, 0), r.deed(0, -1, -1, 0, 0, 0),
            r.deed(0, 6, -1, 0, 0, 0), r.deed(0, 0, -2, 0, 0, 0), r.deed(0, 0, 2, 0, 0, 0)}, BAD, BAD, BAD, BAD, BAD, BAD);
        c.all(new int[] {r.deed(0, 0, -1, -1, 0, 0), r.deed(0, 0, -1, 11, 0, 11), r.deed(0, 0, -1, 5, -1, 5),
            r.deed(0, 0, -1, 5, 100, 5), r.deed(0, 0, -1, 5, 0, 4), r.deed(0, 0, -1, 5, 0, 10000)},
            BAD, BAD, BAD, BAD, BAD, BAD);
        r.ground(50, 1);
        c.all(new int[] {r.deed(0, 0, -1, 10, 99, 9999), r.deed(1, 5, 0, 0, 0, 0), r.deed(1, 5, 1, 0, 50, 0)}, 0, 1, 2);
        for (int d = 3; d < 24; d++) c.due(r.deed(0, 0, -1, 0, 0, 0), d);
        c.all(new int[] {r.deed(0, 0, -1, 0, 0, 0), r.deed(0, 6, -1, 0, 0, 0), r.many(4), r.personOf(1, 9)}, FULL, BAD, 24, 2);
    }

    /** A ring in which somebody did a DEED, of which it is asked whether it COUNTS by a TEXT. */
    private static PeaceRing after(String text) {
        PeaceRing r = new PeaceRing();
        r.person(55, 1);
        r.stone(55, 5);
        Check.read(r, 0, text);
        r.hours(10);
        r.deed(0, 0, -1, 0, 55, 0);
        r.deed(0, 0, 0, 10, 0, 10);
        return r;
    }

    static void promise17() {
        PeaceRing r = after("");
        c.all(new int[] {r.counts(0, 0, 0), r.counts(1, 0, 10), r.counts(1, 0, 9), r.counts(0, 0, 10000), r.counts(0, 0, -1),
            r.counts(2, 0, 0), r.counts(-1, 0, 0), r.counts(0, -1, 0), r.counts(0, 100, 0)},
            1, 1, BAD, BAD, BAD, BAD, BAD, BAD, BAD);
        conditionsOnADeed();
        r = after("theft fail if inside;");
        // inside goes by the LINES in force at the HOUR of the DEED, and by STONES as they are now.
        c.all(new int[] {r.counts(0, 0, 10), r.counts(1, 0, 10)}, 0, 1);
        r.stone(0, 1);
        c.due(r.counts(1, 0, 10), 0);
        Check.read(r, 1, "mile 0; measure straight;");
        c.all(new int[] {r.counts(1, 0, 10), r.counts(0, 0, 10)}, 0, 0);
        r.deed(0, 0, -1, 10, 56, 10);
        c.due(r.counts(2, 0, 10), 1);
        r = after("theft fail; any count if night; theft fail if against; blow fail;");
        c.all(new int[] {r.counts(0, 0, 10), r.counts(1, 0, 10)}, 1, 0);
        r = after("blow and debt fail; any and oath fail if not night;");
        c.all(new int[] {r.counts(0, 0, 10), r.counts(1, 0, 10)}, 1, 0);
        timesAreOfThatKindAndPerson();
        insideIsLookedUpAnew();
        // LINES go by CHARTERS, not by when they were read, and only those of that HOUR.
        r = after("theft count;");
        Check.read(r, 2, "theft fail;");
        c.all(new int[] {r.counts(0, 0, 9), r.counts(0, 0, 10)}, 1, 0);
        Check.read(r, 1, "theft count;");
        c.due(r.counts(0, 0, 10), 0);
    }

    private static void timesAreOfThatKindAndPerson() {
        PeaceRing r = after("any fail if times above 1;");
        r.person(0, 1);
        r.deed(1, 0, -1, 5, 0, 5);
        r.deed(0, 1, -1, 5, 0, 5);
        c.all(new int[] {r.counts(0, 0, 10), r.counts(1, 0, 10), r.counts(2, 0, 10), r.counts(3, 0, 10)}, 1, 0, 1, 1);
        // DEEDS of the same HOUR count one another, whichever was told first, KNOWN or not.
        r.deed(1, 0, -1, 5, 0, 900);
        c.all(new int[] {r.counts(2, 0, 10), r.counts(4, 0, 10)}, 0, 0);
    }

    /** Whatever changes by then: VERSIONS of the HOUR of the DEED, STONES, walls. */
    private static void insideIsLookedUpAnew() {
        PeaceRing r = new PeaceRing();
        r.person(0, 1);
        r.stone(50, 1);
        r.deed(0, 0, -1, 0, 54, 0);
        Check.read(r, 0, "any fail if inside;");
        r.keep();
        c.due(r.counts(0, 0, 0), 1);
        Check.read(r, 1, "mile 4;");
        c.due(r.counts(0, 0, 0), 0);
        r.strike(1);
        c.due(r.counts(0, 0, 0), 1);
        Check.read(r, 1, "mile 4;");
        c.due(r.counts(0, 0, 0), 0);
        r.ground(52, 1);
        c.due(r.counts(0, 0, 0), 1);
        r.ground(52, 2);
        c.due(r.counts(0, 0, 0), 0);
        r.again();
        c.due(r.counts(0, 0, 0), 1);
        r.stone(54, 1);
        c.due(r.counts(0, 0, 0), 0);
        r.again();
        c.due(r.counts(0, 0, 0), 1);
    }

    private static void condition(String condition, int... due) {
        PeaceRing r = after("theft fail if " + condition + ";");
        c.all(new int[] {1 - r.counts(0, 55, 10), 1 - r.counts(1, 55, 10), 1 - r.counts(0, 0, 30)}, due);
    }

    /** DEED 0: theft at 0 (NIGHT), INSIDE, against nobody; DEED 1: theft at 10 (day), not INSIDE, against somebody. */
    private static void conditionsOnADeed() {
        condition("age above 0", 1, 0, 1);
        condition("age above 9", 1, 0, 1);
        condition("age above 10", 0, 0, 1);
        condition("age above 29", 0, 0, 1);
        condition("age above 30", 0, 0, 0);
        condition("times above 0", 1, 1, 1);
        condition("times above 1", 0, 1, 0);
        condition("times above 2", 0, 0, 0);
        condition("degree above 4", 1, 1, 0);
        condition("degree above 5", 0, 0, 0);
        condition("inside", 1, 0, 1);
        condition("night", 1, 0, 1);
        condition("against", 0, 1, 0);
        condition("not against", 1, 0, 1);
        condition("not not against", 0, 1, 0);
        condition("not not not against", 1, 0, 1);
        condition("night or against and degree above 9", 1, 0, 1);
        condition("(night or against) and degree above 4", 1, 1, 0);
        condition("degree above 4 and night or against", 1, 1, 0);
        condition("not night and against", 0, 1, 0);
        condition("not (night and against)", 1, 1, 1);
        condition("not (night or against)", 0, 0, 0);
        condition("night and (degree above 9 or (age above 20 and (inside or (against))))", 0, 0, 1);
        condition("against or against or night and inside and not against", 1, 1, 1);
    }

    static void promise18() {
        PeaceRing r = after("mile 3; theft count; any fail if age above 15;");
        c.all(new int[] {r.line(0, 0, 10), r.line(0, 0, 15), r.line(0, 0, 16), r.line(1, 0, 10)}, 1, 1, 2, 1);
        Check.read(r, 2, "cost 3; blow fail; theft fail if age above 3;");
        Check.read(r, 1, "theft fail;");
        c.all(new int[] {r.line(0, 0, 9), r.line(0, 0, 10), r.counts(0, 0, 10)}, 1, 102, 0);
        r.deed(0, 3, -1, 0, 0, 0);
        c.all(new int[] {r.line(2, 0, 10), r.counts(2, 0, 10)}, NONE, 1);
        c.all(new int[] {r.line(1, 0, 9), r.line(0, 0, 10000), r.line(3, 0, 0), r.line(-1, 0, 0), r.line(0, -1, 0),
            r.line(0, 100, 0)}, BAD, BAD, BAD, BAD, BAD, BAD);
    }

    static void promise19() {
        PeaceRing r = after("theft fail if degree above 5; blow fail;");
        c.all(new int[] {r.safe(0, 55, 0, 0), r.safe(0, 58, 9999, 9999), r.safe(0, 59, 0, 0), r.safe(0, 0, 0, 0)}, 1, 1, 0, 0);
        r.ground(55, 3);
        c.all(new int[] {r.safe(0, 55, 0, 0), r.safe(0, 54, 0, 0)}, 0, 1);
        r.deed(0, 1, -1, 5, 0, 30);
        // Only DEEDS of that HOUR or ahead that are KNOWN at k.
        c.all(new int[] {r.safe(0, 54, 20, 29), r.safe(0, 54, 20, 30), r.safe(0, 54, 4, 30), r.safe(0, 54, 5, 30)}, 1, 0, 1, 0);
        r.person(54, 1);
        c.due(r.safe(1, 55, 20, 30), 1);
        r.stone(0, 1);
        c.all(new int[] {r.safe(1, 0, 0, 0), r.degree(0, 0)}, 1, 1);
        c.all(new int[] {r.safe(2, 0, 0, 0), r.safe(-1, 0, 0, 0), r.safe(0, -1, 0, 0), r.safe(0, 100, 0, 0)}, BAD, BAD, BAD, BAD);
        c.all(new int[] {r.safe(0, 0, -1, 0), r.safe(0, 0, 10000, 0), r.safe(0, 0, 0, -1), r.safe(0, 0, 0, 10000)},
            BAD, BAD, BAD, BAD);
    }

    static void promise20() {
        PeaceRing r = after("theft fail if against; blow fail;");
        c.all(new int[] {r.why(0, 55, 10, 9), r.why(0, 55, 10, 10), r.why(0, 0, 10, 10), r.why(0, 0, 9, 9)}, NONE, 1, 1, -9);
        r.deed(0, 1, -1, 0, 0, 0);
        c.all(new int[] {r.why(0, 55, 10, 9), r.why(0, 55, 10, 10), r.why(0, 99, 0, 0)}, 2, 1, 2);
        c.all(new int[] {r.why(1, 0, 0, 0), r.why(-1, 0, 0, 0), r.why(0, -1, 0, 0), r.why(0, 100, 0, 0)}, BAD, BAD, BAD, BAD);
        c.all(new int[] {r.why(0, 0, -1, 0), r.why(0, 0, 10000, 0), r.why(0, 0, 0, -1), r.why(0, 0, 0, 10000)},
            BAD, BAD, BAD, BAD);
    }

    static void promise21() {
        PeaceRing r = new PeaceRing();
        r.person(55, 1);
        r.stone(55, 5);
        c.due(r.cost(0, 0), 10);
        Check.read(r, 0, "cost 20; cost 30 if not inside; cost 40 if age above 5 and degree above 4;");
        // Without a DEED no COND holds, not even a denied one.
        c.all(new int[] {r.cost(0, 0), r.cost(0, 9999)}, 20, 20);
        r.hours(10);
        r.deed(0, 0, -1, 4, 0, 9000);
        c.all(new int[] {r.cost(0, 3), r.cost(0, 4), r.cost(0, 9), r.cost(0, 10)}, 20, 30, 30, 40);
        // The latest DEED is the one with the greatest number of that HOUR or ahead, not the youngest.
        r.deed(0, 0, -1, 0, 55, 0);
        c.all(new int[] {r.cost(0, 0), r.cost(0, 4), r.cost(0, 6)}, 20, 20, 40);
        r.deed(0, 0, -1, 6, 0, 6);
        c.all(new int[] {r.cost(0, 5), r.cost(0, 6), r.cost(0, 12)}, 20, 30, 40);
        r.move(0, 0);
        c.due(r.cost(0, 12), 30);
        Check.read(r, 1, "cost 0;");
        c.all(new int[] {r.cost(0, 12), r.cost(0, 9)}, 0, 30);
        c.all(new int[] {r.cost(1, 0), r.cost(-1, 0), r.cost(0, -1), r.cost(0, 10000)}, BAD, BAD, BAD, BAD);
    }

    // ---- states

    /** PERSONS 0 to 5 at a STONE of DEGREE 2, in a STATE each: the one of their number (5 is free still). */
    private static PeaceRing states() {
        PeaceRing r = new PeaceRing();
        r.stone(55, 2);
        for (int p = 0; p < 6; p++) r.person(55, 1 + p % 4);
        for (int p = 1; p < 5; p++) r.seek(p);
        r.swear(2);
        r.swear(3);
        r.leave(3, 1);
        r.dwell(4);
        return r;
    }

    static void promise22() {
        PeaceRing r = states();
        r.person(0, 1);
        r.hours(7);
        c.all(new int[] {r.seek(0), r.personOf(0, 2), r.personOf(0, 3)}, 1, 1, 7);
        c.all(new int[] {r.seek(0), r.seek(1), r.seek(2), r.seek(3), r.seek(4), r.seek(6), r.seek(7), r.seek(-1)},
            STATE, STATE, STATE, STATE, STATE, STATE, BAD, BAD);
        Check.read(r, 0, "oath fail;");
        r.deed(5, 4, -1, 7, 0, 8);
        c.due(r.seek(5), 1);
        r.person(55, 1);
        r.deed(7, 4, -1, 7, 0, 8);
        r.hours(1);
        c.all(new int[] {r.seek(7), r.personOf(7, 2), r.personOf(7, 3)}, STATE, 0, 0);
    }

    static void promise23() {
        PeaceRing r = states();
        c.all(new int[] {r.swear(0), r.swear(2), r.swear(3), r.swear(4), r.swear(6), r.swear(-1)},
            STATE, STATE, STATE, STATE, BAD, BAD);
        r.hours(5);
        r.seek(0);
        Check.read(r, 0, "forty 2;");
        r.hours(43);
        // 48 HOURS behind are allowed, 49 are not; and the one who became safe later has time still.
        c.all(new int[] {r.swear(1), r.personOf(1, 2), r.personOf(1, 3)}, 1, 2, 48);
        r.seek(5);
        r.hours(6);
        c.due(r.swear(0), STATE);
        r.strike(0);
        c.due(r.swear(0), 1);
        PeaceRing later = new PeaceRing();
        later.stone(0, 1);
        later.person(0, 1);
        Check.pass(later, 900);
        later.seek(0);
        Check.pass(later, 960);
        c.due(later.swear(0), 1);
        PeaceRing all = states();
        Check.pass(all, 960);
        c.due(all.swear(1), 1);
        all = states();
        Check.pass(all, 961);
        c.due(all.swear(1), STATE);
    }

    static void promise24() {
        PeaceRing r = states();
        r.hours(23);
        c.all(new int[] {r.leave(0, 0), r.leave(1, 0), r.leave(3, 0), r.leave(4, 0), r.leave(2, 5), r.leave(2, -1),
            r.leave(6, 0), r.leave(-1, 0)}, STATE, STATE, STATE, STATE, BAD, BAD, BAD, BAD);
        r.port(2, 1, 4);
        r.port(2, 2, 4);
        c.all(new int[] {r.leave(2, 2), r.personOf(2, 2), r.personOf(2, 7), r.leave(1, 2)}, NONE, 2, NONE, STATE);
        r.port(2, 2, 3);
        r.port(2, 0, 3);
        // DAY 0, ROAD 3: a SHIP goes on the very DAY.
        c.all(new int[] {r.leave(2, 2), r.personOf(2, 2), r.personOf(2, 3), r.personOf(2, 7)}, 3, 3, 23, 2);
        r.hours(1);
        r.seek(0);
        r.swear(0);
        c.due(r.leave(0, 2), 7);
        r.seek(5);
        r.swear(5);
        r.port(0, 1, 1);
        r.port(0, 0, 30);
        c.due(r.leave(5, 0), 31);
    }

    static void promise25() {
        PeaceRing r = states();
        c.all(new int[] {r.dwell(0), r.dwell(2), r.dwell(3), r.dwell(4), r.dwell(6), r.dwell(-1)},
            STATE, STATE, STATE, STATE, BAD, BAD);
        r.seek(0);
        r.seek(5);
        r.hours(2);
        r.deed(1, 3, -1, 0, 0, 0);
        r.deed(0, 3, -1, 0, 0, 0);
        r.deed(0, 0, -1, 0, 0, 3);
        r.deed(5, 0, -1, 0, 0, 2);
        c.all(new int[] {r.dwell(1), r.personOf(1, 2), r.personOf(1, 3), r.dwell(5), r.personOf(5, 2)}, 1, 4, 2, STATE, 1);
        c.due(r.dwell(0), 1);
        r.person(55, 1);
        r.seek(6);
        r.deed(6, 0, -1, 0, 0, 3);
        r.hours(1);
        c.due(r.dwell(6), STATE);
        PeaceRing first = new PeaceRing();
        first.stone(0, 1);
        first.person(0, 1);
        first.seek(0);
        first.deed(0, 5, -1, 0, 0, 0);
        c.due(first.dwell(0), STATE);
    }

    static void promise26() {
        PeaceRing r = new PeaceRing();
        for (int port = 0; port < 5; port++) {
            c.all(new int[] {r.port(port, 0, 1), r.port(port, 0, 30), r.port(port, 1, 30), r.port(port, 1, 1),
                r.port(port, 2, 29), r.port(port, 2, 0)}, 5, 1, 7, 30, 0, 29);
            c.all(new int[] {r.port(port, 0, 0), r.port(port, 0, 31), r.port(port, 1, 0), r.port(port, 1, 31),
                r.port(port, 2, -1), r.port(port, 2, 30), r.port(port, 3, 5), r.port(port, -1, 5)},
                BAD, BAD, BAD, BAD, BAD, BAD, BAD, BAD);
        }
        c.all(new int[] {r.port(5, 0, 5), r.port(-1, 0, 5), r.port(4, 0, 5), r.port(4, 1, 5)}, BAD, BAD, 30, 1);
    }

    static void promise27() {
        PeaceRing r = states();
        c.all(new int[] {r.sails(3, 0), r.sails(3, 1), r.sails(3, 2)}, 5, 7, 2);
        r.hours(50);
        c.all(new int[] {r.sails(3, 0), r.sails(3, 1), r.sails(3, 2)}, 5, 7, 2);
        r.port(1, 0, 9);
        r.port(1, 1, 6);
        r.port(1, 2, 5);
        c.all(new int[] {r.sails(3, 0), r.sails(3, 1), r.sails(3, 2)}, 9, 11, 2);
        r.port(1, 2, 3);
        c.all(new int[] {r.sails(3, 1), r.sails(3, 2)}, 9, 0);
        r.port(1, 2, 6);
        c.all(new int[] {r.sails(3, 0), r.sails(3, 1), r.sails(3, 2)}, 9, NONE, NONE);
        c.all(new int[] {r.sails(2, 0), r.sails(0, 0), r.sails(6, 0), r.sails(-1, 0), r.sails(3, 3), r.sails(3, -1),
            r.sails(0, 3)}, STATE, STATE, BAD, BAD, BAD, BAD, BAD);
        r.take(0, 3);
        c.due(r.sails(3, 0), STATE);
    }

    static void promise28() {
        PeaceRing r = states();
        r.person(0, 1);
        r.hours(3);
        r.aim(6, 99);
        r.aim(4, 99);
        c.all(new int[] {r.take(0, 6), r.personOf(6, 2), r.personOf(6, 3), r.personOf(6, 4), r.personOf(0, 8)}, 0, 5, 3, NONE, 0);
        c.all(new int[] {r.take(0, 4), r.personOf(4, 2), r.personOf(4, 4), r.personOf(0, 8)}, 1, 6, NONE, 20);
        r.ground(55, 3);
        Check.read(r, 0, "cost 7;");
        c.all(new int[] {r.take(0, 2), r.personOf(2, 2), r.personOf(0, 8)}, 2, 6, 55);
        // One who swore is not to be taken even outside; DEGREE is 1 at least.
        r.move(3, 0);
        c.all(new int[] {r.take(0, 3), r.personOf(3, 2), r.personOf(0, 8)}, 3, 6, 62);
        // One who is safe is to be taken outside.
        r.move(1, 0);
        c.all(new int[] {r.take(0, 1), r.personOf(1, 2), r.personOf(0, 8)}, 4, 5, 62);
        c.all(new int[] {r.take(0, 6), r.take(0, 4), r.take(6, 0), r.take(4, 0), r.take(0, 0), r.take(7, 0), r.take(0, 7),
            r.take(-1, 0), r.take(6, 6)}, STATE, STATE, STATE, STATE, BAD, BAD, BAD, BAD, BAD);
        Check.read(r, 1, "killing fail;");
        r.deed(5, 2, -1, 0, 0, 4);
        c.all(new int[] {r.take(0, 5), r.personOf(5, 2)}, 5, 6);
        takingsFill();
    }

    private static void takingsFill() {
        PeaceRing r = new PeaceRing();
        for (int p = 0; p < 16; p++) r.person(2, 1);
        for (int p = 1; p < 16; p++) c.due(r.take(0, p), p - 1);
        // A sixteenth TAKING there cannot be: one PERSON must stay to take. So all were taken once and no more.
        c.all(new int[] {r.many(5), r.take(0, 1), r.take(1, 0)}, 15, STATE, STATE);
    }

    static void promise29() {
        PeaceRing r = states();
        r.hours(5);
        Check.read(r, 0, "killing fail;");
        r.deed(0, 2, -1, 0, 0, 6);
        r.take(1, 0);
        r.move(5, 0);
        r.take(1, 5);
        r.take(4, 2);
        c.all(takings(r, 0), 1, 0, 5, 55, 20, 2);
        c.all(takings(r, 1), 1, 5, 5, 0, 0, 3);
        c.all(takings(r, 2), 4, 2, 5, 55, 20, 0);
        r.person(55, 1);
        r.take(6, 4);
        c.due(r.taking(3, 5), 0);
        r.hours(5);
        // Told later, done ahead of it; and done behind it.
        r.deed(4, 2, -1, 6, 0, 10);
        c.due(r.taking(3, 5), 0);
        r.deed(4, 2, -1, 5, 0, 10);
        c.due(r.taking(3, 5), 2);
        // The oath holds whatever one did.
        r.deed(2, 2, -1, 0, 0, 0);
        c.due(r.taking(2, 5), 0);
        r.strike(0);
        r.move(0, 99);
        c.all(takings(r, 0), 1, 0, 5, 55, 20, 2);
        c.all(new int[] {r.taking(4, 0), r.taking(-1, 0), r.taking(0, 6), r.taking(0, -1)}, BAD, BAD, BAD, BAD);
    }

    private static int[] takings(PeaceRing r, int taking) {
        int[] all = new int[6];
        for (int what = 0; what < 6; what++) all[what] = r.taking(taking, what);
        return all;
    }

    // ---- posts, runs

    static void promise30() {
        PeaceRing r = new PeaceRing();
        r.ground(50, 1);
        c.all(new int[] {r.post(-1, 0, 0, 0), r.post(100, 0, 0, 0), r.post(0, -1, 0, 0), r.post(0, 5, 0, 0), r.post(0, 0, -1, 0),
            r.post(0, 0, 24, 0), r.post(0, 0, 0, -1), r.post(0, 0, 0, 24), r.post(50, 0, 0, 0), r.post(50, 5, 0, 0)},
            BAD, BAD, BAD, BAD, BAD, BAD, BAD, BAD, STATE, BAD);
        for (int p = 0; p < 8; p++) c.due(r.post(p, p % 5, p, 23 - p), p);
        c.all(new int[] {r.post(0, 0, 0, 0), r.post(50, 0, 0, 0), r.post(0, 5, 0, 0), r.many(6)}, FULL, STATE, BAD, 8);
    }

    static void promise31() {
        PeaceRing r = new PeaceRing();
        r.post(55, 2, 6, 12);
        r.post(56, 0, 20, 3);
        r.post(55, 4, 5, 5);
        c.all(new int[] {r.sees(55, 6), r.sees(55, 12), r.sees(55, 5), r.sees(55, 13), r.sees(55, 9991)}, 1, 1, 4, 0, 1);
        c.all(new int[] {r.sees(57, 30), r.sees(58, 30), r.sees(66, 30), r.sees(67, 30), r.sees(37, 29), r.sees(36, 29)},
            1, 0, 1, 0, 4, 4);
        c.all(new int[] {r.sees(56, 20), r.sees(56, 23), r.sees(56, 24), r.sees(56, 27), r.sees(56, 28), r.sees(56, 19),
            r.sees(57, 24)}, 2, 2, 2, 2, 0, 0, 0);
        c.all(new int[] {r.sees(-1, 0), r.sees(100, 0), r.sees(0, -1), r.sees(0, 10000)}, BAD, BAD, BAD, BAD);
    }

    static void promise32() {
        PeaceRing r = states();
        r.ground(99, 1);
        c.all(new int[] {r.aim(0, 1), r.aim(0, 2), r.aim(0, 99), r.aim(0, 55), r.personOf(0, 4)}, NONE, 1, 2, STATE, 99);
        c.all(new int[] {r.aim(6, 0), r.aim(-1, 0), r.aim(0, -1), r.aim(0, 100), r.many(7)}, BAD, BAD, BAD, BAD, 1);
        r.take(0, 1);
        r.move(5, 0);
        r.take(0, 5);
        c.all(new int[] {r.aim(1, 3), r.aim(5, 3), r.aim(4, 3), r.aim(3, 3)}, STATE, STATE, NONE, NONE);
    }

    static void promise33() {
        PeaceRing r = new PeaceRing();
        c.all(new int[] {r.run(0, 22, 1, 0), r.run(0, 22, 1, 1), r.run(0, 22, 1, 2), r.many(10)}, 0, 4, 1, 4);
        c.all(cells(r), 1, 2, 12, 22);
        c.all(new int[] {r.run(22, 22, 1, 0), r.run(22, 22, 1, 1), r.run(22, 22, 1, 2), r.many(10)}, 0, 0, NONE, 0);
        c.all(new int[] {r.run(-1, 0, 1, 0), r.run(0, 100, 1, 0), r.run(0, 1, 0, 0), r.run(0, 1, 5, 0), r.run(0, 1, 1, 3),
            r.run(0, 1, 1, -1)}, BAD, BAD, BAD, BAD, BAD, BAD);
        r.ground(50, 1);
        r.run(0, 1, 1, 0);
        c.all(new int[] {r.run(50, 0, 1, 0), r.run(0, 50, 1, 0), r.run(50, 50, 1, 0), r.many(10)}, NONE, NONE, NONE, 1);
        runsPastPosts();
        runsThatWait();
        runsOfSixtySteps();
    }

    private static int[] cells(PeaceRing r) {
        int[] all = new int[r.many(10)];
        for (int i = 0; i < all.length; i++) all[i] = r.row(i, 0);
        return all;
    }

    private static void runsPastPosts() {
        PeaceRing r = new PeaceRing();
        r.post(1, 0, 0, 23);
        // Round the POST, not through it, although that is longer; through it, if nothing else is.
        c.all(new int[] {r.run(0, 2, 1, 0), r.run(0, 2, 1, 1), r.run(0, 2, 1, 2)}, 0, 4, 10);
        r.ground(10, 1);
        c.all(new int[] {r.run(0, 2, 1, 0), r.run(0, 2, 1, 1), r.row(0, 1), r.row(1, 1)}, 1, 2, 1, 0);
        r.post(0, 0, 0, 23);
        c.all(new int[] {r.run(2, 0, 1, 0), r.row(1, 1)}, 2, 1);
        // Nobody is SEEN where they start.
        c.all(new int[] {r.run(1, 2, 1, 0), r.run(2, 1, 1, 0)}, 0, 1);
    }

    /** A lane one CELL wide: 0 to 9, all else is wall. */
    private static PeaceRing lane() {
        PeaceRing r = new PeaceRing();
        for (int cell = 10; cell < 20; cell++) r.ground(cell, 1);
        return r;
    }

    private static void runsThatWait() {
        PeaceRing r = lane();
        r.post(2, 0, 1, 5);
        // With one STEP an HOUR: CELL 2 is seen till 5, so one goes to and fro till 6.
        c.all(new int[] {r.run(0, 3, 1, 0), r.run(0, 3, 1, 1)}, 0, 7);
        c.all(cells(r), 1, 0, 1, 0, 1, 2, 3);
        // With two an HOUR: 6 is there with the eleventh STEP.
        c.all(new int[] {r.run(0, 3, 2, 0), r.run(0, 3, 2, 1)}, 0, 13);
        c.all(new int[] {r.run(0, 3, 4, 0), r.run(0, 3, 4, 1)}, 0, 23);
        r.hours(3);
        c.all(new int[] {r.run(0, 3, 1, 0), r.run(0, 3, 1, 1)}, 0, 5);
        r.hours(3);
        c.all(new int[] {r.run(0, 3, 1, 0), r.run(0, 3, 1, 1)}, 0, 3);
        PeaceRing late = lane();
        late.post(2, 0, 0, 5);
        Check.pass(late, 9999);
        // Beyond the last HOUR the CLOCK goes on: 9999 is 15 o'clock.
        c.all(new int[] {late.run(0, 3, 1, 0), late.run(0, 9, 1, 1)}, 0, 9);
    }

    private static void runsOfSixtySteps() {
        PeaceRing r = lane();
        r.post(2, 0, 1, 14);
        // 59 STEPS with four an HOUR end at 15; of 15 HOURS no more are there.
        c.all(new int[] {r.run(0, 3, 4, 0), r.run(0, 3, 4, 1)}, 0, 59);
        c.all(new int[] {r.run(0, 2, 4, 0), r.run(0, 2, 4, 1)}, 0, 58);
        r = lane();
        r.post(2, 0, 1, 15);
        c.all(new int[] {r.run(0, 3, 4, 0), r.run(0, 3, 4, 1)}, 1, 3);
        r = snake();
        c.all(new int[] {r.between(40, 37, 0), r.run(40, 37, 1, 1), r.between(40, 27, 0), r.run(40, 27, 1, 1)}, 60, 60, 61, NONE);
        c.all(new int[] {r.many(10), r.judge(), r.run(27, 40, 1, 1), r.run(27, 50, 1, 1)}, 60, 0, NONE, 60);
    }

    /** One lane that winds through THE GROUND: 62 CELLS, none beside another one but as they follow. */
    private static PeaceRing snake() {
        int[] lane = {40, 50, 51, 61, 71, 70, 80, 90, 91, 92, 93, 83, 73, 63, 64, 54, 44, 43, 42, 32, 31, 21, 20, 10, 0, 1, 2,
            12, 13, 23, 24, 25, 15, 16, 6, 7, 8, 9, 19, 29, 39, 49, 59, 69, 79, 89, 99, 98, 97, 96, 95, 85, 75, 76, 77, 67, 57,
            56, 46, 36, 37, 27};
        PeaceRing r = new PeaceRing();
        boolean[] open = new boolean[100];
        for (int cell : lane) open[cell] = true;
        for (int cell = 0; cell < 100; cell++) if (!open[cell]) r.ground(cell, 1);
        return r;
    }

    static void promise34() {
        PeaceRing r = new PeaceRing();
        c.due(r.row(0, 0), -9);
        r.post(2, 0, 0, 23);
        r.run(0, 2, 1, 0);
        c.all(new int[] {r.row(0, 0), r.row(0, 1), r.row(1, 0), r.row(1, 1)}, 1, 0, 2, 1);
        c.all(new int[] {r.row(2, 0), r.row(-1, 0), r.row(0, 2), r.row(0, -1), r.row(LOW, 0), r.row(HIGH, 1)},
            -9, -9, -9, -9, -9, -9);
    }

    static void promise35() {
        PeaceRing r = new PeaceRing();
        c.due(r.alterRow(0, 0, 1), -9);
        r.run(0, 2, 1, 0);
        c.all(new int[] {r.alterRow(1, 0, LOW), r.alterRow(1, 0, 7), r.alterRow(1, 1, HIGH), r.row(1, 0), r.row(1, 1)},
            2, LOW, 0, 7, HIGH);
        c.all(new int[] {r.alterRow(2, 0, 1), r.alterRow(-1, 0, 1), r.alterRow(0, 2, 1), r.alterRow(0, -1, 1)}, -9, -9, -9, -9);
    }

    static void promise36() {
        PeaceRing r = new PeaceRing();
        c.due(r.dropRow(), NONE);
        r.run(0, 2, 1, 0);
        c.all(new int[] {r.dropRow(), r.many(10), r.row(1, 0), r.row(0, 0), r.dropRow(), r.dropRow(), r.many(10)},
            1, 1, -9, 1, 0, NONE, 0);
    }

    static void promise37() {
        PeaceRing r = new PeaceRing();
        c.due(r.judge(), NONE);
        r.ground(50, 1);
        r.run(0, 50, 1, 0);
        r.run(0, 1, 9, 0);
        c.due(r.judge(), NONE);
        r.run(0, 3, 1, 0);
        c.due(r.judge(), 0);
        r.alterRow(2, 1, 1);
        c.due(r.judge(), 3);
        r.alterRow(0, 0, 10);
        c.due(r.judge(), 1);
        r.alterRow(0, 0, 1);
        r.dropRow();
        c.due(r.judge(), 3);
        r.dropRow();
        r.dropRow();
        c.due(r.judge(), 1);
        r.run(0, 50, 1, 0);
        c.due(r.judge(), 1);
        // What changes behind the run changes nothing of it.
        r.run(0, 3, 1, 0);
        r.ground(1, 1);
        r.post(2, 0, 0, 23);
        r.hours(3);
        c.due(r.judge(), 0);
        r.run(7, 7, 1, 2);
        c.due(r.judge(), 0);
    }

    static void promise38() {
        PeaceRing r = new PeaceRing();
        c.due(r.gap(0), BAD);
        r.stone(55, 1);
        r.stone(57, 1);
        r.stone(0, 1);
        c.all(new int[] {r.gap(0), r.gap(3), r.gap(-1)}, 24, BAD, BAD);
        r.post(55, 0, 10, 12);
        c.all(new int[] {r.gap(0), r.gap(1), r.gap(2)}, 21, 24, 24);
        r.post(56, 1, 23, 1);
        c.all(new int[] {r.gap(0), r.gap(1), r.gap(2)}, 10, 21, 24);
        r.post(55, 0, 2, 9);
        c.due(r.gap(0), 10);
        r.post(55, 0, 13, 21);
        c.due(r.gap(0), 1);
        r.post(55, 0, 22, 22);
        c.due(r.gap(0), 0);
        r.post(57, 0, 0, 23);
        c.due(r.gap(1), 0);
    }

    static void promise39() {
        PeaceRing r = new PeaceRing();
        c.due(r.watch(), 0);
        r.post(55, 0, 0, 11);
        r.post(0, 0, 0, 23);
        c.due(r.watch(), 0);
        r.stone(55, 1);
        c.due(r.watch(), 1);
        r.post(55, 1, 6, 20);
        c.due(r.watch(), 5);
        r.post(55, 1, 0, 20);
        // One POST alone sees what all see together.
        c.due(r.watch(), 8);
        r.post(54, 1, 0, 20);
        c.due(r.watch(), 8);
        r.stone(0, 1);
        c.due(r.watch(), 10);
        r.stone(53, 1);
        c.due(r.watch(), 18);
        PeaceRing midnight = new PeaceRing();
        midnight.stone(0, 1);
        midnight.post(0, 0, 0, 0);
        c.due(midnight.watch(), 1);
        midnight.post(0, 0, 23, 23);
        c.due(midnight.watch(), 3);
        PeaceRing all = new PeaceRing();
        all.stone(55, 1);
        for (int p = 0; p < 8; p++) all.post(55, 0, 3 * p, 3 * p + 2);
        c.due(all.watch(), 255);
    }

    // ---- bells, nights, narrowing

    static void promise40() {
        PeaceRing r = new PeaceRing();
        r.person(55, 1);
        r.ground(50, 1);
        c.all(new int[] {r.bell(-1, 0), r.bell(100, 0), r.bell(0, -1), r.bell(0, 19)}, BAD, BAD, BAD, BAD);
        for (int b = 0; b < 8; b++) c.due(r.bell(50, b == 0 ? 0 : 18), b);
        c.all(new int[] {r.bell(0, 0), r.bell(0, 19), r.many(8), r.heard(0, 0), r.heard(0, 7)}, FULL, BAD, 8, NONE, 0);
    }

    static void promise41() {
        PeaceRing r = new PeaceRing();
        r.person(55, 1);
        r.person(57, 1);
        r.person(46, 1);
        c.due(r.heard(0, 0), BAD);
        r.hours(4);
        r.bell(55, 2);
        r.bell(55, 1);
        c.all(new int[] {r.heard(0, 0), r.heard(1, 0), r.heard(2, 0)}, 4, 4, 4);
        c.all(new int[] {r.heard(0, 1), r.heard(1, 1), r.heard(2, 1)}, 4, NONE, NONE);
        c.all(new int[] {r.heard(3, 0), r.heard(-1, 0), r.heard(0, 2), r.heard(0, -1), r.heard(0, 8)}, BAD, BAD, BAD, BAD, BAD);
        r.person(55, 1);
        c.due(r.heard(3, 0), NONE);
        r.hours(1);
        c.all(new int[] {r.heard(3, 0), r.heard(3, 1), r.heard(0, 0), r.heard(1, 1)}, 5, 5, 4, NONE);
    }

    static void promise42() {
        PeaceRing r = new PeaceRing();
        r.ground(50, 1);
        c.all(new int[] {r.sight(50, 0, 0), r.sight(0, 1, 0)}, 0, BAD);
        Check.pass(r, 45);
        c.all(new int[] {r.sight(-1, 20, 0), r.sight(100, 20, 0), r.sight(0, -1, 0), r.sight(0, 46, 0), r.sight(0, 20, -1),
            r.sight(0, 20, 5), r.sight(0, 12, 5)}, BAD, BAD, BAD, BAD, BAD, BAD, BAD);
        c.all(new int[] {r.sight(0, 6, 0), r.sight(0, 19, 0), r.sight(0, 30, 0), r.sight(0, 43, 0)}, STATE, STATE, STATE, STATE);
        c.all(new int[] {r.sight(0, 5, 1), r.sight(0, 20, 2), r.sight(0, 23, 3), r.sight(0, 24, 4), r.sight(0, 29, 0),
            r.sight(0, 44, 0), r.sight(0, 45, 0)}, 1, 2, 3, 4, 5, 6, 7);
        for (int s = 8; s < 16; s++) c.due(r.sight(s, 0, 0), s);
        c.all(new int[] {r.sight(0, 0, 0), r.sight(0, 12, 0), r.sight(0, 0, 5), r.many(9)}, FULL, STATE, BAD, 16);
    }

    static void promise43() {
        PeaceRing r = states();
        r.seek(5);
        r.dwell(5);
        Check.pass(r, 48);
        c.due(r.who(0), BAD);
        // PERSON 4 has 1 LEGS, PERSON 5 2; the others are no dwellers.
        r.sight(55, 20, 0);
        r.sight(56, 20, 0);
        r.sight(56, 21, 0);
        r.sight(57, 21, 0);
        r.sight(57, 21, 1);
        r.sight(56, 21, 2);
        r.sight(0, 25, 0);
        r.sight(0, 29, 0);
        r.sight(0, 5, 0);
        r.sight(55, 0, 3);
        c.all(new int[] {r.who(0), r.who(1), r.who(2), r.who(3), r.who(4), r.who(5), r.who(6), r.who(7), r.who(8), r.who(9)},
            48, 0, 48, 32, 0, 32, 32, 32, 32, 0);
        c.all(new int[] {r.who(10), r.who(-1)}, BAD, BAD);
        r.sight(95, 24, 0);
        c.due(r.who(10), 48);
        for (int cell : new int[] {94, 85, 96}) r.ground(cell, 1);
        c.due(r.who(10), 0);
        r.move(4, 95);
        c.due(r.who(10), 16);
        r.ground(56, 1);
        c.due(r.who(2), 0);
        r.seek(0);
        r.dwell(0);
        c.due(r.who(0), 33);
    }

    static void promise44() {
        PeaceRing r = new PeaceRing();
        r.stone(55, 3);
        r.person(55, 1);
        r.person(57, 1);
        r.person(55, 1);
        r.person(0, 1);
        c.due(r.narrow(0, 0), BAD);
        Check.read(r, 0, "mile 5;");
        Check.read(r, 0, "mile 1; theft fail;");
        Check.read(r, 1, "mile 0; blow fail if not inside;");
        r.deed(0, 0, -1, 0, 0, 0);
        r.deed(2, 1, -1, 0, 56, 0);
        c.all(new int[] {r.narrow(0, 1), r.narrow(1, 0), r.narrow(0, 0), r.narrow(2, 1), r.narrow(1, 2), r.narrow(0, 2)},
            3, 0, 0, 1, 4, 6);
        c.all(new int[] {r.narrow(3, 0), r.narrow(0, 3), r.narrow(-1, 0), r.narrow(0, -1)}, BAD, BAD, BAD, BAD);
        // A DEED that isn't KNOWN yet is not looked at; and nothing of it stays.
        r.deed(1, 0, -1, 0, 55, 1);
        Check.read(r, 1, "theft fail;");
        c.all(new int[] {r.narrow(0, 3), r.many(13), r.rule(0, 0)}, 1, 1, 1);
        r.hours(1);
        c.due(r.narrow(0, 3), 3);
    }

    static void promise45() {
        PeaceRing r = new PeaceRing();
        r.stone(50, 3);
        for (int cell = 50; cell < 55; cell++) r.person(cell, 1);
        c.all(new int[] {r.both(0, 0), r.both(16, 16), r.both(0, 1), r.both(-1, 0), r.both(17, 0), r.both(0, -1), r.both(0, 17)},
            18, NONE, NONE, BAD, BAD, BAD, BAD);
        // SAFE with MILE 3 are 0 to 3.
        r.deed(0, 0, -1, 0, 0, 0);
        r.deed(2, 0, -1, 0, 0, 0);
        r.deed(4, 0, -1, 0, 0, 5);
        c.all(new int[] {r.both(0, 1), r.both(0, 2), r.both(1, 2), r.both(2, 2), r.both(16, 2), r.both(16, 3), r.both(3, 2)},
            3, NONE, NONE, 1, 1, NONE, 1);
        r.take(0, 4);
        // Who is taken is not counted any more among those who would not be SAFE.
        c.all(new int[] {r.both(0, 1), r.both(2, 1)}, NONE, 1);
        Check.read(r, 0, "theft fail if degree above 3 or not inside; mile 0;");
        c.due(r.both(0, 1), 18);
        PeaceRing nought = new PeaceRing();
        nought.stone(50, 3);
        nought.person(51, 1);
        nought.deed(0, 0, -1, 0, 0, 0);
        c.all(new int[] {nought.both(0, 1), nought.both(1, 1)}, NONE, 0);
        PeaceRing inside = new PeaceRing();
        inside.stone(50, 3);
        inside.person(50, 1);
        inside.deed(0, 0, -1, 0, 54, 0);
        Check.read(inside, 0, "theft fail if inside;");
        // inside of the DEED goes by the MILE as it is.
        c.all(new int[] {inside.both(0, 0), inside.both(0, 1)}, 18, NONE);
        PeaceRing lanes = new PeaceRing();
        lanes.stone(0, 1);
        lanes.person(2, 1);
        lanes.ground(1, 1);
        lanes.deed(0, 0, -1, 0, 0, 0);
        c.due(lanes.both(0, 1), 3);
        Check.read(lanes, 0, "measure straight;");
        c.all(new int[] {lanes.both(0, 1), lanes.both(1, 1)}, NONE, 1);
    }

    // ---- the host

    static void promise46() {
        PeaceRing r = new PeaceRing();
        c.all(new int[] {r.sheet(-1, 0, 1), r.sheet(4, 0, 1), r.sheet(0, -2, 1), r.sheet(0, 5, 1), r.sheet(0, 0, 41),
            r.sheet(0, 0, -1), r.sheet(4, 0, -1), r.sheet(0, 5, -1), r.sheet(0, 0, LOW)}, BAD, BAD, BAD, BAD, BAD, -14, BAD, BAD, -14);
        c.all(new int[] {r.sheet(0, 0, 40), r.item(0, 0, 39), r.item(0, 0, 40), r.sheet(0, 4, 0), r.item(0, 4, 0)}, 1, 0, -12, 1, -12);
        c.all(new int[] {r.sheet(3, 2, 2), r.put(3, 1, 9), r.sheet(3, 2, 2), r.item(3, 2, 1)}, 1, 1, 1, 0);
        c.all(new int[] {r.sheet(3, -1, 99), r.item(3, 2, 1), r.sheet(3, -1, -99), r.item(0, 4, 0)}, 1, -11, 1, -12);
    }

    static void promise47() {
        PeaceRing r = new PeaceRing();
        c.all(new int[] {r.put(-1, 0, 0), r.put(4, 0, 0), r.put(0, 0, 0), r.put(0, -1, 0)}, BAD, BAD, -11, -11);
        int[][] narrowed = {{44, -1, 0}, {300, -1, 0}, {300, 65535, 65536}, {300, 65535, 65536}, {1, 1, 1}};
        for (int sort = 0; sort < 5; sort++) {
            r.sheet(1, sort, 3);
            c.all(new int[] {r.put(1, 0, 300), r.put(1, 1, 65535), r.put(1, 2, 65536), r.put(1, 3, 0), r.put(1, -1, 0)},
                1, 1, 1, -12, -12);
            c.all(new int[] {r.item(1, sort, 0), r.item(1, sort, 1), r.item(1, sort, 2)}, narrowed[sort]);
            r.put(1, 2, 0);
            c.due(r.item(1, sort, 2), 0);
        }
        r.sheet(2, 0, 2);
        r.put(2, 0, 128);
        r.put(2, 1, -129);
        c.all(new int[] {r.item(2, 0, 0), r.item(2, 0, 1)}, -128, 127);
    }

    static void promise48() {
        PeaceRing r = new PeaceRing();
        r.sheet(1, 2, 2);
        r.put(1, 0, -13);
        c.all(new int[] {r.item(1, 2, 0), r.item(1, 2, 2), r.item(1, 2, -1), r.item(1, 3, 0), r.item(1, 3, 9), r.item(0, 3, 9)},
            -13, -12, -12, -13, -13, -11);
        c.all(new int[] {r.item(-1, 0, 0), r.item(4, 0, 0), r.item(1, -1, 0), r.item(1, 5, 0), r.item(0, 5, 0)},
            BAD, BAD, BAD, BAD, BAD);
        for (int is = 0; is < 5; is++) {
            r.sheet(3, is, 1);
            for (int as = 0; as < 5; as++) c.due(r.item(3, as, 0), as == is ? 0 : -13);
        }
        r.sheet(3, 3, 1);
        r.put(3, 0, LOW);
        c.due(r.item(3, 3, 0), LOW);
    }

    static void promise49() {
        PeaceRing r = new PeaceRing();
        c.all(new int[] {r.comes(-1, 0), r.comes(4, 0), r.comes(0, 0), r.comes(0, -1)}, BAD, BAD, -11, -11);
        r.sheet(0, 4, 5);
        c.all(new int[] {r.comes(0, 0), r.comes(0, 9)}, -13, -13);
        r.sheet(0, 0, 6);
        int[] told = {0, 55, 2, 20, 3, 24};
        for (int i = 0; i < 6; i++) r.put(0, i, told[i]);
        c.all(new int[] {r.comes(0, 3), r.comes(0, -1), r.comes(0, HIGH), r.comes(0, LOW), r.comes(0, 2), r.many(6)},
            -12, -12, -12, -12, BAD, 0);
        c.all(new int[] {r.comes(0, 1), r.many(6), r.sees(57, 23), r.sees(57, 3), r.sees(57, 4)}, 0, 1, 1, 1, 0);
        r.ground(9, 1);
        r.put(0, 1, 9);
        c.due(r.comes(0, 1), STATE);
        r.put(0, 1, 8);
        for (int p = 1; p < 8; p++) c.due(r.comes(0, 1), p);
        c.due(r.comes(0, 1), FULL);
        r.sheet(0, 0, 3);
        c.due(r.comes(0, 0), -12);
    }

    static void promise50() {
        PeaceRing r = new PeaceRing();
        r.person(0, 1);
        c.all(new int[] {r.shelf(-1, 0, 0), r.shelf(4, 0, 0), r.shelf(0, -1, 0), r.shelf(0, 3, 0), r.shelf(0, 0, 1),
            r.shelf(0, 0, -1), r.shelf(0, 1, 4), r.shelf(0, 1, -1)}, BAD, BAD, BAD, BAD, BAD, BAD, BAD, BAD);
        r.sheet(2, 1, 7);
        c.all(new int[] {r.shelf(0, 0, 0), r.shelf(1, 1, 2), r.shelf(2, 1, 0), r.shelf(3, 2, 99)}, 1, 1, 1, 1);
        c.all(new int[] {r.taken(0, 0), r.taken(1, 11), r.taken(2, 0), r.taken(3, 0)}, 0, 7, -11, -11);
        // A SHELF holds the row that was there, whatever becomes of the SHEET.
        r.sheet(2, 3, 9);
        c.due(r.taken(1, 11), 7);
        r.sheet(2, -1, 0);
        c.due(r.taken(1, 11), 7);
        c.all(new int[] {r.shelf(0, 2, 0), r.taken(0, 0), r.shelf(1, 0, 0), r.taken(1, 0), r.taken(1, 11)}, 1, -11, 1, 0, -13);
    }

    static void promise51() {
        PeaceRing r = states();
        r.move(5, 0);
        r.take(0, 5);
        r.take(0, 4);
        boolean[][] is = new boolean[7][7];
        int[][] chains = {{0}, {1, 0}, {2, 1, 0}, {3, 2, 1, 0}, {4, 0}, {5, 0}, {6, 5, 0}};
        for (int kind = 0; kind < 7; kind++) for (int as : chains[kind]) is[kind][as] = true;
        int[] person = {0, 1, 2, 3, -1, 5, 4};
        for (int kind = 0; kind < 7; kind++) {
            if (person[kind] < 0) continue;
            r.shelf(0, 0, person[kind]);
            for (int as = 0; as < 7; as++) c.due(r.taken(0, as), is[kind][as] ? person[kind] : -13);
            for (int as = 10; as < 15; as++) c.due(r.taken(0, as), -13);
        }
        r = states();
        r.shelf(0, 0, 4);
        for (int as = 0; as < 7; as++) c.due(r.taken(0, as), is[4][as] ? 4 : -13);
        // Of their KIND as it is now.
        r.shelf(1, 0, 0);
        c.due(r.taken(1, 1), -13);
        r.seek(0);
        c.due(r.taken(1, 1), 0);
        for (int sort = 0; sort < 5; sort++) {
            r.sheet(0, sort, sort);
            r.shelf(2, 1, 0);
            for (int as = 10; as < 15; as++) c.due(r.taken(2, as), as - 10 == sort ? sort : -13);
            c.due(r.taken(2, 0), -13);
        }
        c.all(new int[] {r.taken(3, 0), r.taken(3, 14), r.taken(-1, 0), r.taken(4, 0), r.taken(0, -1), r.taken(0, 7),
            r.taken(0, 9), r.taken(0, 15), r.taken(3, 7)}, -11, -11, BAD, BAD, BAD, BAD, BAD, BAD, BAD);
        r = new PeaceRing();
        r.keep();
        r.person(0, 1);
        r.shelf(0, 0, 0);
        r.again();
        c.all(new int[] {r.taken(0, 0), r.taken(0, 10), r.deal(0, 0, 1)}, -11, -11, 0);
    }

    static void promise52() {
        PeaceRing r = states();
        for (int p = 0; p < 5; p++) r.move(p, 20 + p);
        int[][] due = {{27, 54, 54, 0}, {30, 60, 62, 0}, {30, 62, 63, 2}, {-26, -78, -78, 3}, {31, 62, 58, 0}};
        for (int p = 0; p < 5; p++) {
            r.shelf(0, 0, p);
            c.all(new int[] {r.deal(0, 0, 7), r.deal(0, 1, 7), r.deal(0, 2, 7), r.deal(0, 3, 7)}, due[p]);
        }
        r.move(5, 0);
        r.take(0, 5);
        r.shelf(1, 0, 5);
        c.all(new int[] {r.deal(1, 0, 7), r.deal(1, 1, 7), r.deal(1, 2, 7), r.deal(1, 3, 31)}, 7, 11, 6, -3);
        r.move(4, 55);
        r.take(0, 4);
        r.shelf(2, 0, 4);
        c.all(new int[] {r.deal(2, 0, 7), r.deal(2, 1, 7), r.deal(2, 2, 7), r.deal(2, 3, 86)}, 62, 125, 10, 2);
        c.all(new int[] {r.deal(2, 0, HIGH), r.deal(2, 1, 1 << 30), r.deal(2, 3, HIGH)}, LOW + 54, (LOW + 110 ^ 5) + 4, LOW / 44);
        r.move(4, 10);
        c.due(r.deal(2, 3, LOW - 2), LOW);
        r.move(4, 11);
        c.due(r.deal(2, 3, 7), -15);
        r.move(3, 11);
        r.shelf(3, 0, 3);
        c.all(new int[] {r.deal(3, 3, 7), r.many(12), r.trace(0), r.trace(1)}, -15, 2, 31, 13);
        r.sheet(0, 0, 1);
        for (int wrong = 0; wrong < 6; wrong++) {
            r.shelf(3, 0, 3);
            r.deal(3, 0, 1);
            c.due(r.many(12), 3);
            r.shelf(3, wrong == 0 ? 1 : wrong == 1 ? 2 : 0, wrong == 0 ? 0 : 3);
            c.due(wrong == 2 ? r.deal(-1, 0, 1) : wrong == 3 ? r.deal(4, 0, 1) : wrong == 4 ? r.deal(3, -1, 1)
                : wrong == 5 ? r.deal(3, 4, 1) : r.deal(3, 0, 1), 0);
            c.all(new int[] {r.many(12), r.trace(0)}, 0, NONE);
        }
    }

    static void promise53() {
        PeaceRing r = states();
        c.due(r.trace(0), NONE);
        int[][] bodies = {{10}, {11, 10}, {12, 11, 10}, {13}, {20, 10}, {11, 20, 10}, {21, 12, 11, 20, 10}, {13},
            {20, 10}, {30, 11, 20, 10}, {21, 12, 30, 11, 20, 10}, {31, 13},
            {40, 20, 10}, {41, 30, 11, 40, 20, 10, 40, 20, 10}, {21, 12, 41, 30, 11, 40, 20, 10, 40, 20, 10}, {31, 13},
            {10}, {11, 10}, {50, 12, 11, 10}, {13}, {10}, {60, 11, 10}, {12, 60, 11, 10}, {61, 13},
            {10}, {71, 60, 11, 10}, {70, 12, 71, 60, 11, 10, 71, 60, 11, 10}, {61, 13}};
        for (int p = 0; p < 5; p++) traces(r, p, p, bodies);
        r.take(0, 4);
        r.move(5, 0);
        r.take(0, 5);
        traces(r, 5, 5, bodies);
        traces(r, 4, 6, bodies);
        c.all(new int[] {r.trace(-1), r.trace(30), r.trace(LOW), r.trace(HIGH)}, NONE, NONE, NONE, NONE);
    }

    private static void traces(PeaceRing r, int person, int kind, int[][] bodies) {
        r.shelf(0, 0, person);
        for (int deal = 0; deal < 4; deal++) {
            r.deal(0, deal, 5);
            int[] told = new int[r.many(12)];
            for (int i = 0; i < told.length; i++) told[i] = r.trace(i);
            c.all(told, bodies[4 * kind + deal]);
            c.due(r.trace(told.length), NONE);
        }
    }

    static void promise54() {
        PeaceRing r = states();
        r.hours(9);
        r.stone(0, 1);
        Check.read(r, 0, "");
        Check.read(r, 0, "");
        Check.read(r, 0, "");
        for (int d = 0; d < 4; d++) r.deed(0, 0, -1, 0, 0, 0);
        r.take(0, 1);
        for (int p = 0; p < 7; p++) r.post(99, 0, 20, 20);
        r.aim(0, 5);
        r.aim(2, 5);
        for (int b = 0; b < 8; b++) r.bell(0, 0);
        for (int s = 0; s < 10; s++) r.sight(0, 0, 0);
        r.run(0, 83, 1, 0);
        r.feed(0L, 5);
        r.shelf(0, 0, 3);
        r.deal(0, 1, 0);
        r.person(99, 1);
        int[] all = new int[14];
        for (int what = 0; what < 14; what++) all[what] = r.many(what);
        c.all(all, 9, 7, 2, 3, 4, 1, 7, 2, 8, 10, 11, 5, 9, 6);
        Check.read(r, 0, "");
        Check.read(r, 0, "theft fail;");
        c.all(new int[] {r.many(13), r.many(11), r.many(14), r.many(-1)}, 5, 0, BAD, BAD);
    }

    // ---- kept

    static void promise55() {
        PeaceRing r = states();
        c.all(new int[] {r.keep(), r.keep(), r.many(1)}, 1, 1, 6);
        r.person(3, 3);
        c.all(new int[] {r.keep(), r.person(3, 3), r.again(), r.many(1), r.personOf(6, 1)}, 1, 7, 1, 7, 3);
    }

    static void promise56() {
        PeaceRing r = new PeaceRing();
        c.due(r.again(), NONE);
        r = states();
        r.ground(1, 2);
        r.stone(54, 7);
        Check.read(r, 0, "forty 2; theft fail if degree above 3 and not night;");
        r.deed(0, 0, -1, 0, 0, 0);
        r.port(3, 2, 2);
        r.take(4, 3);
        r.post(0, 1, 0, 23);
        r.bell(0, 2);
        r.sight(0, 0, 0);
        r.aim(1, 57);
        r.keep();
        int[] before = all(r);
        for (int time = 0; time < 2; time++) {
            change(r);
            c.due(r.again(), 1);
            c.all(all(r), before);
        }
        // THE TAPE, ROWS, SHEETS, SHELVES, THE TRACE stay as they were.
        c.all(new int[] {r.many(11), r.many(10), r.judge(), r.item(0, 2, 0), r.taken(0, 12), r.many(12), r.trace(0)},
            16, 11, 0, 42, 1, 2, 20);
    }

    private static void change(PeaceRing r) {
        r.ground(1, 3);
        r.ground(2, 1);
        r.stone(0, 9);
        Check.read(r, 0, "mile 9;");
        Check.read(r, 1, "blow fail;");
        r.strike(1);
        r.person(0, 1);
        r.deed(0, 1, -1, 0, 0, 0);
        r.port(3, 2, 9);
        r.seek(0);
        r.take(0, 2);
        r.post(9, 0, 0, 0);
        r.bell(55, 9);
        r.sight(9, 0, 1);
        r.hours(30);
        r.move(0, 33);
        r.feed(0L, 8);
        r.run(0, 9, 1, 0);
        r.sheet(0, 2, 1);
        r.put(0, 0, 42);
        r.shelf(0, 1, 0);
        r.shelf(1, 0, 1);
        r.deal(1, 0, 1);
        r.feed(0L, 8);
    }

    /** All that can be asked of what is kept. */
    private static int[] all(PeaceRing r) {
        java.util.List<Integer> all = new java.util.ArrayList<>();
        for (int what = 0; what < 10; what++) {
            all.add(r.many(what));
            for (int p = 0; p < 8; p++) all.add(r.personOf(p, what));
        }
        for (int cell = 0; cell < 100; cell++) all.add(r.degree(cell, 0));
        for (int v = 0; v < 4; v++) for (int what = 0; what < 20; what++) all.add(r.version(v, what));
        for (int what = 0; what < 3; what++) all.add(r.rule(40, what));
        for (int d = 0; d < 3; d++) for (int hour = 0; hour < 40; hour += 13) all.add(r.line(d, 55, hour));
        for (int t = 0; t < 3; t++) for (int what = 0; what < 6; what++) all.add(r.taking(t, what));
        for (int cell = 0; cell < 20; cell++) all.add(r.sees(cell, 0));
        for (int p = 0; p < 8; p++) for (int b = 0; b < 2; b++) all.add(r.heard(p, b));
        for (int s = 0; s < 3; s++) all.add(r.who(s));
        all.add(r.watch());
        all.add(r.many(13));
        int was = r.port(3, 2, 0);
        r.port(3, 2, was);
        all.add(was);
        all.add(r.between(0, 9, 0));
        return all.stream().mapToInt(Integer::intValue).toArray();
    }
}
