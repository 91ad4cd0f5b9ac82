/** 6 ROUTES: LEGS, when a SHIP comes to them, what it PASSES, which minutes hold. */
final class BoundsOfRoutes {
    private static final int NONE = Checks.NONE, NO_FLOAT = Checks.NO_FLOAT;
    private static final int DAY = Checks.DAY, LAST = Checks.LAST, LAST_MINUTE = 43199;
    /** SHIPS of the desk that deep() makes; each but STILL comes a unit of DISTANCE in a second. */
    private static final int LIGHT = 0, TOW = 1, STILL = 2, BY_ZERO = 3, HALF = 4;

    private BoundsOfRoutes() {
    }

    static void run() {
        fourLegs();
        legsOfOneRouteAlone();
        routesInUse();
        coming();
        slowOnes();
        comingThatIsRefused();
        risesAndSets();
        daysOfComing();
        otherSuns();
        needs();
        marks();
        asFarAsTheyMust();
        askedAheadOfTheLegs();
        legByLeg();
        lastMinutes();
        minutesThatAreRefused();
    }

    /** SHOAL 0 (of STATION 0, flat) is deep, SHOAL 1 is dry, SHOAL 2 (of STATION 1) has no SURVEY. */
    private static TideDesk deep() {
        TideDesk x = new TideDesk();
        x.survey(0, 0);
        x.shoal(0, 5000, 0);
        x.shoal(0, -1000, 0);
        x.shoal(1, 5000, 0);
        x.ship(1, 0, 100, 0, 0, 0);
        x.ship(2, 0, 100, 1, 0, 0);
        x.ship(1, 0, 0, 0, 0, 0);
        x.ship(2, 0, 100, 0, 0, 0);
        x.ship(4, 0, 100, 0, LIGHT, NONE);
        return x;
    }

    private static void fourLegs() {
        Checks.terms("6 ROUTES 0 .. 5 have LEGS, 4 at most: a SHOAL, a DISTANCE (0 .. 50000, not below the one ahead),"
            + " a MARK");
        Checks.promise(38, "A LEG more: how many. BAD: ROUTE, SHOAL, DISTANCE, MARK (BITS); NO: a PASSAGE of it has a"
            + " start; FULL: 4.");
        TideDesk x = deep();
        for (int route = 0; route < 6; route++) {
            for (int i = 1; i <= 4; i++) {
                Checks.due("leg " + i, x.leg(route, 0, i == 4 ? 50000 : 10 * i, NO_FLOAT), i);
                Checks.due("below the one ahead", x.leg(route, 0, i == 4 ? 49999 : 10 * i - 1, NO_FLOAT), Checks.BAD);
            }
            Checks.due("the 5th", x.leg(route, 0, 50000, NO_FLOAT), Checks.FULL);
            Checks.dueAll("BAD ahead of FULL", Checks.BAD, x.leg(route, 3, 50000, NO_FLOAT), x.leg(route, -1, 50000, 0),
                x.leg(route, 0, 50001, NO_FLOAT), x.leg(route, 0, 50000, 0x80000001), x.leg(6, 0, 50000, 0));
            Checks.due("the 4th is as it was", x.comes(LIGHT, route, 3, 0), 50000);
            Checks.due("the 3rd is as it was", x.comes(LIGHT, route, 2, 0), 30);
        }
        Checks.promise(39, "A ROUTE has no LEGS: how many it had. BAD; NO: a PASSAGE of it has a start.");
        for (int route = 0; route < 6; route++) {
            Checks.due("four", x.clear(route), 4);
            Checks.due("none", x.clear(route), 0);
            Checks.due("no LEG is left", x.comes(LIGHT, route, 0, 0), Checks.BAD);
            Checks.due("none is ahead of it", x.leg(route, 0, 0, NO_FLOAT), 1);
            Checks.due("one", x.clear(route), 1);
        }
    }

    private static void legsOfOneRouteAlone() {
        Checks.terms("a DISTANCE (0 .. 50000, not below the one ahead)");
        TideDesk x = deep();
        Checks.due("the greatest", x.leg(0, 0, 50000, NO_FLOAT), 1);
        Checks.due("of another ROUTE none is ahead", x.leg(1, 0, 0, NO_FLOAT), 1);
        Checks.due("as far", x.leg(1, 0, 0, NO_FLOAT), 2);
        Checks.due("farther", x.leg(1, 0, 7, NO_FLOAT), 3);
        Checks.due("as far", x.leg(1, 0, 7, NO_FLOAT), 4);
        Checks.due("as far as the greatest", x.leg(0, 0, 50000, NO_FLOAT), 2);
        Checks.due("cleared", x.clear(1), 4);
        Checks.due("the other is as it was", x.comes(LIGHT, 0, 1, 0), 50000);
        Checks.due("and not longer", x.comes(LIGHT, 0, 2, 0), Checks.BAD);
    }

    private static void routesInUse() {
        Checks.promise(38, "NO: a PASSAGE of it has a start;");
        TideDesk x = deep();
        x.passage(LIGHT, 0, 5);
        x.passage(STILL, 0, 5);
        x.passage(LIGHT, 0, 6);
        Checks.due("they WAIT", x.leg(0, 0, 20, NO_FLOAT), 1);
        x.plan();
        Checks.due("one has a start", x.planned(0, 1), 5);
        Checks.due("one has none", x.planned(1, 1), NONE);
        Checks.due("one has a start", x.planned(2, 1), 6);
        Checks.due("leg", x.leg(0, 0, 20, NO_FLOAT), Checks.NO);
        Checks.due("BAD ahead of NO", x.leg(0, 0, 19, NO_FLOAT), Checks.BAD);
        Checks.due("BAD ahead of NO", x.leg(0, 3, 20, NO_FLOAT), Checks.BAD);
        Checks.promise(39, "NO: a PASSAGE of it has a start.");
        Checks.due("clear", x.clear(0), Checks.NO);
        Checks.due("NO leaves it", x.comes(LIGHT, 0, 0, 0), 20);
        Checks.due("another ROUTE", x.leg(1, 0, 20, NO_FLOAT), 1);
        Checks.due("another ROUTE", x.clear(1), 1);
        x.again(0);
        Checks.due("one of two WAITS", x.clear(0), Checks.NO);
        Checks.due("one of two WAITS", x.leg(0, 0, 20, NO_FLOAT), Checks.NO);
        x.again(2);
        Checks.due("both WAIT", x.leg(0, 0, 20, NO_FLOAT), 2);
        Checks.due("both WAIT, one has none", x.clear(0), 2);
        Checks.due("NO is no FINDING", x.count(8), 0);
        TideDesk full = deep();
        for (int i = 0; i < 4; i++) {
            full.leg(2, 0, 0, NO_FLOAT);
        }
        full.passage(LIGHT, 2, 0);
        full.plan();
        Checks.due("NO ahead of FULL", full.leg(2, 0, 0, NO_FLOAT), Checks.NO);
        full.again(0);
        Checks.due("FULL", full.leg(2, 0, 0, NO_FLOAT), Checks.FULL);
        Harbour.refused(Harbour::make, "leg", Checks.NO, y -> y.leg(0, 0, 50000, NO_FLOAT));
        Harbour.refused(Harbour::make, "clear", Checks.NO, y -> y.clear(0));
    }

    private static void coming() {
        Checks.terms("A SHIP that starts at s comes to a LEG at s and DISTANCE * 100 by its PACE (below 1: NO; beyond all"
            + " MOMENTS: NO).");
        Checks.promise(41, "When a SHIP that starts at s comes to LEG i (PACE alone is asked).");
        int[][] cut = {{0, 1, 0}, {0, 3000, 0}, {1, 100, 1}, {1, 101, 0}, {1, 99, 1}, {29, 3000, 0}, {30, 3000, 1},
            {59, 3000, 1}, {60, 3000, 2}, {50000, 3000, 1666}, {50000, 2, 2500000}, {25919, 1, 2591900}, {7, 3, 233}};
        for (int[] c : cut) {
            TideDesk x = deep();
            int ship = x.ship(1, 0, c[1], 0, 0, 0);
            x.leg(3, 2, c[0], NO_FLOAT);
            Checks.due(c[0] + " by " + c[1], x.comes(ship, 3, 0, 0), c[2]);
            Checks.traced("PACE alone", x, 30);
            Checks.due("it starts later", x.comes(ship, 3, 0, 99), c[2] + 99);
            Checks.due("at the last MOMENT", x.comes(ship, 3, 0, LAST - c[2]), LAST);
            if (c[2] > 0) {
                Checks.due("beyond it", x.comes(ship, 3, 0, LAST - c[2] + 1), Checks.NO);
                Checks.due("beyond it", x.comes(ship, 3, 0, LAST), Checks.NO);
            }
            Checks.due("no FINDING", x.count(8), 0);
        }
        TideDesk far = deep();
        int slow = far.ship(1, 0, 1, 0, 0, 0);
        far.leg(0, 0, 25920, NO_FLOAT);
        far.leg(0, 0, 50000, NO_FLOAT);
        Checks.dueAll("beyond from the first MOMENT on", Checks.NO, far.comes(slow, 0, 0, 0), far.comes(slow, 0, 1, 0),
            far.comes(slow, 0, 1, LAST));
    }

    private static void slowOnes() {
        Checks.terms("by its PACE (below 1: NO; beyond all MOMENTS: NO)");
        // The PACE of a TOW is cut: 999 by 1000 is 0, 1000 by 1000 is 1, and by less than 0 it is below 0.
        int[][] tows = {{999, 1000, 0}, {1000, 1000, 1}, {0, 1, 0}, {1, 1, 1}, {3000, -1, 0}, {1, -1, 0}, {3000, -1000, 0}};
        for (int[] tow : tows) {
            TideDesk x = deep();
            int ship = x.ship(2, 0, tow[0], tow[1], 0, 0);
            x.leg(0, 0, 0, NO_FLOAT);
            x.leg(0, 0, 3, NO_FLOAT);
            Checks.due("a LEG at no DISTANCE", x.comes(ship, 0, 0, 9), tow[2] == 0 ? Checks.NO : 9);
            Checks.traced("PACE is asked", x, 31, 30);
            Checks.due("a LEG", x.comes(ship, 0, 1, 9), tow[2] == 0 ? Checks.NO : 309);
            Checks.due("NO is no FINDING", x.finding(), 0);
        }
    }

    private static void comingThatIsRefused() {
        Checks.promise(41, "BAD; FULL; NULL, ZERO, and then NO.");
        TideDesk x = deep();
        x.leg(0, 0, 50000, NO_FLOAT);
        Checks.due("beyond", x.comes(LIGHT, 0, 0, LAST), Checks.NO);
        Checks.due("ZERO ahead of beyond", x.comes(BY_ZERO, 0, 0, LAST), Checks.ZERO);
        Checks.due("NULL ahead of beyond", x.comes(HALF, 0, 0, LAST), Checks.NULL);
        Checks.dueAll("BAD ahead of FINDINGS", Checks.BAD, x.comes(BY_ZERO, 0, 1, 0), x.comes(BY_ZERO, 0, -1, 0),
            x.comes(HALF, 1, 0, 0), x.comes(HALF, 0, 0, LAST + 1), x.comes(STILL, 0, 0, -1), x.comes(STILL, 0, 1, 0));
        Checks.due("two FINDINGS", x.count(8), 2);
        Harbour.stopped(Harbour::make, "NULL", Checks.NULL, 1, y -> y.comes(5, 0, 0, 0), 32, 30);
        Harbour.stopped(Harbour::make, "ZERO", Checks.ZERO, 4, y -> y.comes(6, 0, 0, 0), 31, 30);
        Harbour.stopped(Harbour::make, "NO", Checks.NO, 0, y -> y.comes(0, 0, 1, LAST), 30);
        Harbour.refused(Harbour::make, "BAD", Checks.BAD, y -> y.comes(0, 0, 3, 0));
        Harbour.refused(Harbour::make, "BAD", Checks.BAD, y -> y.comes(0, 4, 0, 0));
    }

    private static void risesAndSets() {
        Checks.terms("It PASSES a LEG at u, a MOMENT, if: it is not BY DAY, or u's second of its DAY is from RISE on and"
            + " before SET (21600, 64800 at first);");
        TideDesk x = deep();
        x.leg(0, 0, 0, NO_FLOAT);
        x.leg(1, 0, 59, NO_FLOAT);
        for (int day : new int[] {0, 1, 29}) {
            int first = day * 1440;
            Checks.due("a second before RISE", x.holds(TOW, 1, first + 359), 0);
            Checks.due("at RISE", x.holds(TOW, 0, first + 360), 1);
            Checks.due("a second before SET", x.holds(TOW, 1, first + 1079), 1);
            Checks.due("at SET", x.holds(TOW, 0, first + 1080), 0);
            Checks.due("its first second", x.holds(TOW, 0, first), 0);
            Checks.due("its last second", x.holds(TOW, 1, first + 1439), 0);
            Checks.due("one that is not BY DAY", x.holds(LIGHT, 1, first + 359), 1);
            Checks.due("one that is not BY DAY", x.holds(LIGHT, 0, first + 1080), 1);
        }
        Checks.due("no FINDING", x.count(8), 0);
    }

    private static void daysOfComing() {
        Checks.terms("u's second of its DAY is from RISE on");
        TideDesk x = deep();
        x.leg(0, 0, 21659, NO_FLOAT);
        x.leg(1, 0, 21660, NO_FLOAT);
        x.leg(2, 0, 0, NO_FLOAT);
        x.leg(2, 0, 50, NO_FLOAT);
        Checks.due("it starts on the DAY before", x.holds(TOW, 0, 1439), 0);
        Checks.due("it starts on the DAY before", x.holds(TOW, 1, 1439), 1);
        Checks.due("at each LEG", x.holds(TOW, 2, 1079), 1);
        x.sun(21600, 64789);
        Checks.due("not at the second LEG", x.holds(TOW, 2, 1079), 0);
        x.sun(64740, 64791);
        Checks.due("at both", x.holds(TOW, 2, 1079), 1);
        x.sun(64741, 64791);
        Checks.due("not at the first LEG", x.holds(TOW, 2, 1079), 0);
    }

    private static void otherSuns() {
        Checks.promise(40, "RISE and SET (0 .. 86400): 1. BAD.");
        TideDesk x = deep();
        x.leg(0, 0, 0, NO_FLOAT);
        x.leg(1, 0, 59, NO_FLOAT);
        int[][] suns = {{0, 86400, 1, 1}, {0, 86399, 1, 0}, {0, 1, 1, 0}, {0, 0, 0, 0}, {1, 86400, 0, 1},
            {86399, 86400, 0, 1}, {86400, 86400, 0, 0}, {86400, 0, 0, 0}, {50000, 40000, 0, 0}};
        for (int[] sun : suns) {
            Checks.due("sun(" + sun[0] + ", " + sun[1] + ")", x.sun(sun[0], sun[1]), 1);
            Checks.due("its first second", x.holds(TOW, 0, 1440), sun[2]);
            Checks.due("its last second", x.holds(TOW, 1, 1439), sun[3]);
            Checks.dueAll("BAD", Checks.BAD, x.sun(-1, 500), x.sun(500, 86401), x.sun(86401, 0), x.sun(0, -1));
            Checks.due("BAD leaves them", x.holds(TOW, 0, 1440) * 2 + x.holds(TOW, 1, 1439), sun[2] * 2 + sun[3]);
        }
    }

    private static void needs() {
        Checks.terms("WATER of the SHOAL at u is NEED / 100.0 or more;");
        // KIND, DRAUGHT, x, BED, MEAN: by whole numbers each of these is just enough.
        int[][] enough = {{1, 400, 0, 430, 0}, {0, 300, 0, 430, 0}, {2, 0, 5, 105, 0}, {3, 3000, 0, 3060, 0},
            {1, 0, 0, 10, 20}, {1, 50, 0, 70, 10}, {1, 0, 0, -70, 100}, {2, 3000, 1000, 4999, -599}};
        int rounded = 0;
        for (int[] e : enough) {
            for (int more = -1; more <= 1; more++) {
                TideDesk x = deep();
                x.mean(0, e[4]);
                x.survey(0, 0);
                int ship = x.ship(e[0], e[1], 3000, e[2], 0, 0);
                int shoal = x.shoal(0, e[3] + more, 0);
                x.leg(0, shoal, 0, NO_FLOAT);
                x.sun(0, 86400);
                x.ask(ship, 0);
                boolean isDeep = (e[3] + more) / 100.0 + e[4] / 100.0 >= x.asked() / 100.0;
                Checks.due("just enough", e[3] + e[4], x.asked());
                rounded += more == 0 && !isDeep ? 1 : 0;
                Checks.due(more + " beside NEED", x.holds(ship, 0, 0), isDeep ? 1 : 0);
            }
        }
        // 0.7 and 0.1 are less than 0.8.
        Checks.due("REALS, not whole numbers", rounded, 1);
        TideDesk x = deep();
        int ship = x.ship(1, 470, 100, 0, 0, 0);
        int shoal = x.shoal(0, 400, 0);
        x.leg(0, shoal, 0, NO_FLOAT);
        x.gauge(0, 0, 60);
        Checks.due("without SURGE", x.holds(ship, 0, 0), 0);
        x.reading(0, 100, 0);
        Checks.due("with SURGE", x.holds(ship, 0, 0), 1);
        Checks.due("a minute later", x.holds(ship, 0, 1), 0);
        Checks.due("NEED and WATER", x.water(shoal, 0), Checks.bits(5.0));
        x.dredge(shoal, 0, 401);
        Checks.due("with a BED as KNOWN NOW", x.holds(ship, 0, 1), 1);
    }

    /** A desk in which the HIGH of STATION 0 is at the first second of a minute, and the minute itself. */
    private static int highMinute(TideDesk x) {
        x.rule(2, 60);
        x.mean(0, 100);
        x.survey(0, 1);
        x.waters(0, DAY - 3600 + 1799, 3);
        return x.found(0, 0, 0) / 60;
    }

    private static void marks() {
        Checks.terms("a MARK (a FLOAT that is not below 0.0, -0.0 and endless ones, too; or NO NUMBER: none).");
        Checks.terms("there is no MARK, or the STREAM at u, without sign, is below it:");
        int two = Checks.bits(2.0f);
        int sign = 0x80000000;
        int[][] cases = {{two, two, 0}, {two, two + 1, 1}, {two, two - 1, 0}, {two | sign, two, 0}, {two | sign, two + 1, 1},
            {two - 1, two, 1}, {0, 0, 0}, {sign, 0, 0}, {0, sign, 0}, {sign, sign, 0}, {0, 1, 1}, {sign, 1, 1}, {1, 1, 0},
            {1 | sign, 2, 1}, {1 | sign, sign, 0}, {Checks.bits(20.0f), 0x7f800000, 1}, {Checks.bits(-20.0f), 0x7f7fffff, 1},
            {two, NO_FLOAT, 1}, {two, 0x7f800001, 1}, {two, 0xff800001, 1}, {two, -1, 1}, {two, 0x7fffffff, 1}};
        for (int[] c : cases) {
            TideDesk x = deep();
            int minute = highMinute(x);
            x.tide(0, 0, c[0]);
            Checks.due("the MARK is one", x.leg(0, 0, 0, c[1]), 1);
            Checks.due("STREAM " + Integer.toHexString(c[0]) + ", MARK " + Integer.toHexString(c[1]),
                x.holds(LIGHT, 0, minute), c[2]);
            Checks.due("no FINDING", x.count(8), 0);
        }
        TideDesk x = deep();
        int minute = highMinute(x);
        x.tide(0, -1, two);
        x.tide(0, 6, two);
        x.leg(0, 0, 0, two);
        x.leg(1, 0, 0, NO_FLOAT);
        Checks.due("the last minute of hour -1", x.holds(LIGHT, 0, minute - 31), 0);
        Checks.due("the first of hour 0", x.holds(LIGHT, 0, minute - 30), 1);
        Checks.due("the last of hour 5", x.holds(LIGHT, 0, minute + 329), 1);
        Checks.due("the first of hour 6", x.holds(LIGHT, 0, minute + 330), 0);
        Checks.due("the last of hour 6", x.holds(LIGHT, 0, minute + 389), 0);
        Checks.due("behind it", x.holds(LIGHT, 0, minute + 390), Checks.INDEX);
        Checks.due("without a MARK no STREAM is asked", x.holds(LIGHT, 1, minute + 390), 1);
        Checks.due("one FINDING", x.count(8), 1);
    }

    private static void asFarAsTheyMust() {
        Checks.terms("asked in this order, as far as they must.");
        TideDesk x = deep();
        int mark = Checks.bits(1.0f);
        x.leg(0, 2, 0, mark);
        x.leg(1, 1, 0, mark);
        x.leg(2, 0, 0, mark);
        Checks.due("night, no SURVEY, no HIGH", x.holds(TOW, 0, 0), 0);
        Checks.due("night, no HIGH", x.holds(TOW, 2, 0), 0);
        Checks.due("dry, no HIGH", x.holds(LIGHT, 1, 0), 0);
        Checks.due("by day, dry, no HIGH", x.holds(TOW, 1, 700), 0);
        Checks.due("no FINDING yet", x.count(8), 0);
        Checks.due("no SURVEY, no HIGH", x.holds(LIGHT, 0, 0), Checks.NULL);
        Checks.due("by day, no SURVEY", x.holds(TOW, 0, 700), Checks.NULL);
        Checks.due("deep, no HIGH", x.holds(LIGHT, 2, 0), Checks.LACK);
        Checks.due("by day, deep, no HIGH", x.holds(TOW, 2, 700), Checks.LACK);
        Checks.due("four FINDINGS", x.count(8), 4);
        highMinute(x);
        Checks.due("too far from the HIGH", x.holds(LIGHT, 2, 0), Checks.INDEX);
        Checks.due("night", x.holds(TOW, 2, 0), 0);
        Checks.due("dry", x.holds(LIGHT, 1, 0), 0);
        Checks.due("five FINDINGS", x.count(8), 5);
    }

    private static void askedAheadOfTheLegs() {
        Checks.terms("(NEED, PACE, BY DAY are asked once for each minute, in this order, ahead of the LEGS, of a ROUTE"
            + " without LEGS, too; then PACE below 1 is NO; LEG by LEG it comes and PASSES; NO and FINDINGS as they are"
            + " met.)");
        TideDesk x = deep();
        for (int i = 0; i < 4; i++) {
            x.leg(0, 0, i, NO_FLOAT);
        }
        x.leg(1, 2, 0, NO_FLOAT);
        int slowTow = x.ship(2, 0, 100, -1, 0, 0);
        Checks.due("four LEGS", x.holds(LIGHT, 0, 0), 1);
        Checks.traced("once", x, 10, 20, 30, 50);
        Checks.due("no LEGS", x.holds(LIGHT, 5, 0), 1);
        Checks.traced("without LEGS, too", x, 10, 20, 30, 50);
        for (int route : new int[] {0, 1, 5}) {
            Checks.due("PACE 0", x.holds(STILL, route, 0), Checks.NO);
            Checks.traced("BY DAY is asked ahead of NO", x, 10, 20, 30, 50);
            Checks.due("PACE below 0", x.holds(slowTow, route, 0), Checks.NO);
            Checks.traced("BY DAY is asked ahead of NO", x, 11, 10, 22, 21, 31, 30, 51);
            Checks.due("PACE by 0", x.holds(BY_ZERO, route, 0), Checks.ZERO);
            Checks.traced("BY DAY is not asked", x, 11, 10, 22, 21, 31, 30);
            Checks.due("a PART is NOTHING", x.holds(HALF, route, 0), Checks.NULL);
            Checks.traced("PACE is not asked", x, 12, 10, 20);
        }
        x.windows(LIGHT, 0, 0, 3);
        Checks.traced("for each minute", x, 10, 20, 30, 50, 10, 20, 30, 50, 10, 20, 30, 50);
        x.windows(BY_ZERO, 0, 0, 2);
        Checks.traced("for each minute", x, 11, 10, 22, 21, 31, 30, 11, 10, 22, 21, 31, 30);
    }

    private static void legByLeg() {
        Checks.terms("A minute m (of 0 .. 43199) HOLDS, if the SHIP that starts at 60 m comes to each LEG, in order, and"
            + " PASSES it then;");
        Checks.terms("LEG by LEG it comes and PASSES; NO and FINDINGS as they are met.)");
        // SHOAL 0 is deep, 1 dry, 2 without SURVEY; at 50000 it comes beyond all MOMENTS.
        int[][] legs = {{0, 0, 0, 0}, {0, 0, 0, 1}, {0, 0, 0, 2}, {0, 0, 1, 2}, {0, 0, 2, 1}, {1, 2, 2, 2}, {2, 1, 1, 1}};
        int[] due = {1, 0, Checks.NULL, 0, Checks.NULL, 0, Checks.NULL};
        int[] dueBeyond = {Checks.NO, Checks.NO, Checks.NO, 0, Checks.NULL, 0, Checks.NULL};
        for (int i = 0; i < legs.length; i++) {
            TideDesk x = deep();
            for (int leg = 0; leg < 4; leg++) {
                x.leg(0, legs[i][leg], 0, NO_FLOAT);
                x.leg(1, legs[i][leg], leg == 3 ? 50000 : 0, NO_FLOAT);
            }
            Checks.due("LEGS " + i, x.holds(LIGHT, 0, 40000), due[i]);
            Checks.due("LEGS " + i + ", the last beyond", x.holds(LIGHT, 1, 42900), dueBeyond[i]);
            Checks.due("FINDINGS", x.count(8), (due[i] < -10 ? 1 : 0) + (dueBeyond[i] < -10 ? 1 : 0));
        }
        TideDesk x = deep();
        x.leg(0, 2, 50000, NO_FLOAT);
        Checks.due("beyond, ahead of no SURVEY", x.holds(LIGHT, 0, LAST_MINUTE), Checks.NO);
        x.leg(1, 1, 50000, NO_FLOAT);
        Checks.due("beyond, ahead of dry", x.holds(LIGHT, 1, LAST_MINUTE), Checks.NO);
        x.survey(1, 2);
        x.leg(2, 2, 60, NO_FLOAT);
        Checks.due("it comes on DAY 2", x.holds(LIGHT, 2, 2 * 1440 - 1), 1);
        Checks.due("it comes on DAY 1", x.holds(LIGHT, 2, 2 * 1440 - 2), Checks.NULL);
    }

    private static void lastMinutes() {
        Checks.terms("A minute m (of 0 .. 43199) HOLDS, if the SHIP that starts at 60 m");
        TideDesk x = deep();
        x.leg(0, 0, 59, NO_FLOAT);
        x.leg(1, 0, 60, NO_FLOAT);
        x.leg(2, 0, 50000, NO_FLOAT);
        Checks.due("at the last MOMENT", x.holds(LIGHT, 0, LAST_MINUTE), 1);
        Checks.due("beyond it", x.holds(LIGHT, 1, LAST_MINUTE), Checks.NO);
        Checks.due("a minute earlier", x.holds(LIGHT, 1, LAST_MINUTE - 1), 1);
        Checks.due("far", x.holds(LIGHT, 2, 42366), 1);
        Checks.due("too far", x.holds(LIGHT, 2, 42367), Checks.NO);
        Checks.due("without LEGS", x.holds(LIGHT, 5, LAST_MINUTE), 1);
        Checks.dueAll("no minutes", Checks.BAD, x.holds(LIGHT, 5, LAST_MINUTE + 1), x.holds(LIGHT, 5, -1),
            x.holds(LIGHT, 5, Checks.MOST), x.holds(LIGHT, 5, Checks.LEAST));
        Checks.due("no FINDING", x.count(8), 0);
    }

    private static void minutesThatAreRefused() {
        Checks.promise(42, "Whether a minute HOLDS (1, 0). BAD; FULL; NO and FINDINGS, as they are met.");
        Harbour.stopped(Harbour::make, "NULL of a PART", Checks.NULL, 1, x -> x.holds(5, 0, 1500), 12, 10, 20);
        Harbour.stopped(Harbour::make, "ZERO", Checks.ZERO, 4, x -> x.holds(6, 0, 1500), 11, 10, 22, 21, 31, 30);
        Harbour.stopped(Harbour::make, "NULL of a SURVEY", Checks.NULL, 1, x -> x.holds(1, 2, 1500), 10, 20, 30, 50);
        Harbour.stopped(Harbour::make, "INDEX", Checks.INDEX, 2, x -> x.holds(1, 1, 10000), 10, 20, 30, 50);
        Harbour.stopped(Harbour::make, "NO", Checks.NO, 0, x -> x.holds(1, 0, LAST_MINUTE), 10, 20, 30, 50);
        Harbour.refused(Harbour::make, "BAD", Checks.BAD, x -> x.holds(5, 0, LAST_MINUTE + 1));
        Harbour.refused(Harbour::make, "BAD", Checks.BAD, x -> x.holds(5, 6, 0));
        Harbour.refused(Harbour::make, "BAD", Checks.BAD, x -> x.holds(7, 0, 0));
    }
}
