/** 6 WINDOWS: runs of minutes that hold, how many are kept, minutes with a FINDING. */
final class BoundsOfWindows {
    private static final int NONE = Checks.NONE, NO_FLOAT = Checks.NO_FLOAT;
    private static final int DAY = Checks.DAY, LAST_MINUTE = 43199;
    /** SHIPS of the desks here. */
    private static final int LIGHT = 0, STILL = 1, BY_ZERO = 2, SLOW = 3;

    private BoundsOfWindows() {
    }

    static void run() {
        runsOfMinutes();
        oneOrMany();
        twentyAreKept();
        lastMinutesOfAll();
        windowsThatAreNone();
        asFoundLatest();
        noHoldingByNo();
        noHoldingByFinding();
        wrongOnes();
        lastOfTheWrongOnes();
        refusedOnes();
    }

    private static void tellShips(TideDesk x) {
        x.ship(1, 0, 100, 0, 0, 0);
        x.ship(1, 0, 0, 0, 0, 0);
        x.ship(2, 0, 100, 0, 0, 0);
        x.ship(1, 0, 1, 0, 0, 0);
    }

    /** Minute i of ROUTE 0 holds where sign i is not '.', for the SURGE is that of that minute's READING alone. */
    private static TideDesk patterned(String minutes) {
        TideDesk x = new TideDesk();
        x.survey(0, 0);
        x.shoal(0, 30, 0);
        tellShips(x);
        x.leg(0, 0, 0, NO_FLOAT);
        x.gauge(0, 0, 60);
        x.rule(0, 1);
        x.clock(DAY);
        for (int i = 0; i < minutes.length(); i++) {
            x.reading(0, minutes.charAt(i) == '.' ? -1 : 0, 0);
        }
        return x;
    }

    private static void kept(String what, TideDesk x, int... firstsAndLasts) {
        int many = firstsAndLasts.length / 2;
        for (int i = 0; i < many; i++) {
            Checks.due(what + ", first of " + i, x.window(i, false), firstsAndLasts[2 * i]);
            Checks.due(what + ", last of " + i, x.window(i, true), firstsAndLasts[2 * i + 1]);
        }
        Checks.due(what + ", how many", x.count(7), many);
        Checks.due(what + ", none behind", x.window(many, false), NONE);
        Checks.due(what + ", none behind", x.window(many, true), NONE);
    }

    private static void runsOfMinutes() {
        Checks.terms("WINDOWS in minutes from a on, n of them (1 .. 120): the longest runs of minutes that hold, in order"
            + " (20 are kept).");
        Checks.promise(43, "WINDOWS are found: how many are kept.");
        TideDesk x = patterned("..x.xx.xxx..x");
        Checks.due("all", x.windows(LIGHT, 0, 0, 13), 4);
        kept("all", x, 2, 2, 4, 5, 7, 9, 12, 12);
        Checks.due("from within a run to within a run", x.windows(LIGHT, 0, 5, 3), 2);
        kept("cut", x, 5, 5, 7, 7);
        Checks.due("none holds", x.windows(LIGHT, 0, 0, 2), 0);
        kept("none holds", x);
        Checks.due("the last holds", x.windows(LIGHT, 0, 0, 3), 1);
        kept("the last holds", x, 2, 2);
        Checks.due("the first holds", x.windows(LIGHT, 0, 2, 2), 1);
        kept("the first holds", x, 2, 2);
        Checks.due("within a run", x.windows(LIGHT, 0, 8, 1), 1);
        kept("within a run", x, 8, 8);
        Checks.due("a whole run", x.windows(LIGHT, 0, 7, 3), 1);
        kept("a whole run", x, 7, 9);
        Checks.due("a run and one minute on either side", x.windows(LIGHT, 0, 6, 5), 1);
        kept("a run and one minute on either side", x, 7, 9);
    }

    private static void oneOrMany() {
        Checks.terms("n of them (1 .. 120)");
        TideDesk x = patterned("x");
        Checks.due("one", x.windows(LIGHT, 0, 0, 1), 1);
        kept("one", x, 0, 0);
        Checks.due("120", x.windows(LIGHT, 5, 1000, 120), 1);
        kept("120", x, 1000, 1119);
        Checks.dueAll("as many are none", Checks.BAD, x.windows(LIGHT, 5, 0, 0), x.windows(LIGHT, 5, 0, 121),
            x.windows(LIGHT, 5, 0, -1), x.windows(LIGHT, 5, 0, Checks.MOST), x.windows(LIGHT, 5, 0, Checks.LEAST));
        kept("BAD leaves them", x, 1000, 1119);
    }

    private static void twentyAreKept() {
        Checks.terms("in order (20 are kept)");
        for (int many : new int[] {19, 20, 21, 22, 60}) {
            TideDesk x = patterned("x.".repeat(many));
            Checks.due(many + " runs", x.windows(LIGHT, 0, 0, 2 * many), Math.min(many, 20));
            for (int i = 0; i < Math.min(many, 20); i++) {
                Checks.due("the first ones", x.window(i, false), 2 * i);
                Checks.due("the first ones", x.window(i, true), 2 * i);
            }
            Checks.dueAll("no more", NONE, x.window(Math.min(many, 20), false), x.window(Math.min(many, 20), true),
                x.window(20, false), x.window(21, true));
            Checks.due("how many", x.count(7), Math.min(many, 20));
        }
        TideDesk x = patterned("x.".repeat(19) + "xxx.xxxx.x");
        Checks.due("the 20th is longer", x.windows(LIGHT, 0, 0, 48), 20);
        Checks.due("its first", x.window(19, false), 38);
        Checks.due("its last", x.window(19, true), 40);
        Checks.due("the 21st is not kept", x.window(20, false), NONE);
        TideDesk y = patterned("x.".repeat(19) + ".x" + "x".repeat(80));
        Checks.due("the 20th is the last", y.windows(LIGHT, 0, 0, 120), 20);
        Checks.due("its first", y.window(19, false), 39);
        Checks.due("its last", y.window(19, true), 119);
    }

    private static void lastMinutesOfAll() {
        Checks.promise(43, "BAD: SHIP, ROUTE, n, a minute that is none; FULL.");
        TideDesk x = patterned("");
        Checks.due("the last 120", x.windows(LIGHT, 5, LAST_MINUTE - 119, 120), 1);
        kept("the last 120", x, LAST_MINUTE - 119, LAST_MINUTE);
        Checks.due("the last", x.windows(LIGHT, 5, LAST_MINUTE, 1), 1);
        kept("the last", x, LAST_MINUTE, LAST_MINUTE);
        Checks.dueAll("a minute that is none", Checks.BAD, x.windows(LIGHT, 5, LAST_MINUTE - 118, 120),
            x.windows(LIGHT, 5, LAST_MINUTE, 2), x.windows(LIGHT, 5, LAST_MINUTE + 1, 1), x.windows(LIGHT, 5, -1, 1),
            x.windows(LIGHT, 5, -1, 120), x.windows(LIGHT, 5, Checks.MOST, 1), x.windows(LIGHT, 5, Checks.MOST, 120),
            x.windows(LIGHT, 5, Checks.LEAST, 1));
        kept("BAD leaves it", x, LAST_MINUTE, LAST_MINUTE);
        Checks.due("BAD is no FINDING", x.count(8), 0);
    }

    private static void windowsThatAreNone() {
        Checks.promise(44, "Of WINDOW i: its first minute (last = false), its last one; NONE: there is none such.");
        TideDesk x = patterned("x.x");
        for (int i : new int[] {0, 1, -1, 20, Checks.MOST, Checks.LEAST}) {
            Checks.dueAll("none found yet", NONE, x.window(i, false), x.window(i, true));
        }
        x.windows(LIGHT, 0, 0, 3);
        for (int i : new int[] {2, -1, 19, 20, Checks.MOST, Checks.LEAST}) {
            Checks.dueAll("none such", NONE, x.window(i, false), x.window(i, true));
        }
        kept("two", x, 0, 0, 2, 2);
        Checks.due("NONE is no FINDING", x.count(8), 0);
    }

    private static void asFoundLatest() {
        Checks.promise(43, "WINDOWS are found: how many are kept.");
        TideDesk x = patterned("x.x.x");
        x.windows(LIGHT, 0, 0, 5);
        kept("three", x, 0, 0, 2, 2, 4, 4);
        x.windows(LIGHT, 0, 3, 2);
        kept("one: the others are gone", x, 4, 4);
        x.windows(LIGHT, 0, 1, 1);
        kept("none: all are gone", x);
        x.windows(LIGHT, 0, 0, 5);
        x.holds(LIGHT, 0, 1);
        x.passage(LIGHT, 0, 1);
        x.plan();
        kept("what holds() and plan() find leaves them", x, 0, 0, 2, 2, 4, 4);
        x.out(0, true);
        kept("they are as they were then", x, 0, 0, 2, 2, 4, 4);
    }

    private static void noHoldingByNo() {
        Checks.terms("a minute with a FINDING, or NO, does not hold.");
        TideDesk x = patterned("");
        Checks.due("no PACE", x.windows(STILL, 5, 0, 120), 0);
        kept("no PACE", x);
        Checks.dueAll("NO is no FINDING", 0, x.wrong(0), x.wrong(1), x.count(8), x.finding());
        x.leg(1, 0, 60, NO_FLOAT);
        Checks.due("beyond all MOMENTS", x.windows(LIGHT, 1, LAST_MINUTE - 9, 10), 1);
        kept("the last one comes beyond", x, LAST_MINUTE - 9, LAST_MINUTE - 1);
        x.leg(2, 0, 25900, NO_FLOAT);
        Checks.due("beyond all but two", x.windows(SLOW, 2, 0, 120), 1);
        kept("beyond all but two", x, 0, 33);
        Checks.dueAll("NO is no FINDING", 0, x.wrong(0), x.wrong(1), x.count(8), x.finding());
    }

    /** A STATION with HIGHS 14 hours apart, between which there is an hour that is none; its first HIGH. */
    private static int farHighs(TideDesk x) {
        x.wave(0, 1000, 1300, 32768);
        x.survey(0, 0);
        x.waters(0, 0, 200);
        return x.found(0, 0, 1) == 1 ? 0 : 1;
    }

    private static void noHoldingByFinding() {
        Checks.terms("a minute with a FINDING, or NO, does not hold.");
        TideDesk x = patterned("");
        x.dredge(0, 0, 5000);
        int first = farHighs(x);
        int high = x.found(0, first, 0);
        int next = x.found(0, first + 2, 0);
        x.leg(1, 0, 0, 0x7f800000);
        int a = high / 60 + 380;
        int lastHeld = NONE;
        int heldAgain = NONE;
        for (int m = a; m < a + 120; m++) {
            boolean isIndex = 60 * m - high >= 23400 && next - 60 * m > 23400;
            boolean isNearNext = next - 60 * m < 60 * m - high;
            lastHeld = !isIndex && !isNearNext ? m : lastHeld;
            heldAgain = !isIndex && isNearNext && heldAgain == NONE ? m : heldAgain;
        }
        Checks.due("two runs round minutes with INDEX", x.windows(LIGHT, 1, a, 120), 2);
        kept("two runs", x, a, lastHeld, heldAgain, a + 119);
        Checks.due("how many had it", x.wrong(0), heldAgain - lastHeld - 1);
        Checks.due("INDEX", x.wrong(1), 2);
        Checks.due("each is a FINDING", x.count(8), heldAgain - lastHeld - 1);
        Checks.dueTrue("there were some", heldAgain - lastHeld > 30);
        x.windows(BY_ZERO, 5, 0, 7);
        kept("none of seven", x);
        Checks.due("ZERO", x.wrong(1) * 10 + x.wrong(0), 47);
    }

    private static void wrongOnes() {
        Checks.promise(43, "(FINDINGS of minutes: wrong().)");
        Checks.promise(45, "Of the minutes of the latest windows() that was not refused: how many had a FINDING (what = 0),"
            + " the FINDING of the last of these (1; 0). BAD.");
        TideDesk x = new TideDesk();
        Checks.dueAll("before", 0, x.wrong(0), x.wrong(1));
        Checks.dueAll("BAD", Checks.BAD, x.wrong(2), x.wrong(-1), x.wrong(Checks.MOST), x.wrong(Checks.LEAST));
        tellShips(x);
        x.shoal(0, 5000, 0);
        x.leg(0, 0, 0, NO_FLOAT);
        x.survey(0, 1);
        for (int[] edge : new int[][] {{1320, 120, 0}, {1439, 1, 0}, {1440, 1, 1}, {1440, 120, 1}}) {
            Checks.due("windows", x.windows(LIGHT, 0, edge[0], edge[1]), edge[2]);
            Checks.due("all or none", x.wrong(0), edge[2] == 0 ? edge[1] : 0);
            Checks.due("the FINDING", x.wrong(1), edge[2] == 0 ? 1 : 0);
        }
        Checks.due("windows", x.windows(LIGHT, 0, 1437, 5), 1);
        kept("behind those with a FINDING", x, 1440, 1441);
        Checks.due("three", x.wrong(0), 3);
        Checks.due("the last that had one", x.wrong(1), 1);
        Checks.due("FINDINGS ever", x.count(8), 124);
        x.holds(LIGHT, 0, 0);
        x.passage(LIGHT, 0, 0);
        x.plan();
        x.ask(BY_ZERO, 2);
        Checks.due("those of others are none of its", x.wrong(0) * 10 + x.wrong(1), 31);
        Checks.due("FINDINGS ever", x.count(8), 127);
        x.windows(LIGHT, 0, 0, 0);
        x.windows(LIGHT, 0, 43100, 101);
        x.windows(9, 0, 0, 9);
        Checks.due("refused ones leave it", x.wrong(0) * 10 + x.wrong(1), 31);
        x.windows(LIGHT, 5, 0, 9);
        Checks.due("of nine without one", x.wrong(0) * 10 + x.wrong(1), 0);
    }

    private static void lastOfTheWrongOnes() {
        Checks.promise(45, "the FINDING of the last of these (1; 0)");
        TideDesk x = patterned("");
        x.dredge(0, 0, 5000);
        x.shoal(1, 5000, 0);
        int first = farHighs(x);
        int next = x.found(0, first + 2, 0);
        int zone = (next - 23400) / 60 + 1;
        x.leg(1, 0, 0, 0x7f800000);
        x.leg(1, 1, 0, NO_FLOAT);
        x.windows(LIGHT, 1, zone - 3, 3);
        Checks.due("INDEX alone", x.wrong(0) * 10 + x.wrong(1), 32);
        Checks.due("finding()", x.finding(), 2);
        x.windows(LIGHT, 1, zone - 3, 5);
        Checks.due("INDEX, then NULL", x.wrong(0) * 10 + x.wrong(1), 51);
        Checks.due("finding()", x.finding(), 1);
        x.clear(1);
        x.leg(1, 0, 0, 0x7f800000);
        x.windows(LIGHT, 1, zone - 3, 9);
        Checks.due("INDEX, then those that hold", x.wrong(0) * 10 + x.wrong(1), 32);
        Checks.due("finding()", x.finding(), 2);
    }

    private static void refusedOnes() {
        Checks.promise(43, "BAD: SHIP, ROUTE, n, a minute that is none; FULL.");
        Harbour.refused(Harbour::make, "BAD", Checks.BAD, x -> x.windows(7, 0, 0, 1));
        Harbour.refused(Harbour::make, "BAD", Checks.BAD, x -> x.windows(0, 0, 43199, 2));
        Harbour.refused(Harbour::spent, "FULL", Checks.FULL, x -> x.windows(1, 4, 0, 1));
        Harbour.refused(Harbour::spent, "BAD ahead of FULL", Checks.BAD, x -> x.windows(1, 4, 0, 121));
        TideDesk x = patterned("x.x");
        x.leg(1, x.shoal(1, 0, 0), 0, NO_FLOAT);
        for (int i = 0; i < 24; i++) {
            x.windows(LIGHT, 1, 0, 120);
        }
        x.windows(LIGHT, 1, 0, 119);
        Checks.due("2999 FINDINGS", x.count(8), 2999);
        x.windows(LIGHT, 0, 0, 3);
        kept("two", x, 0, 0, 2, 2);
        x.at(0, 99);
        Checks.due("FULL", x.windows(LIGHT, 0, 0, 1), Checks.FULL);
        kept("FULL leaves them", x, 0, 0, 2, 2);
        Checks.dueAll("FULL leaves it", 0, x.wrong(0), x.wrong(1));
    }
}
