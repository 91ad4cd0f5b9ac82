/** 6 PASSAGES: who WAITS, in which order they are PLANNED, how long, who is together, what is HELD. */
final class BoundsOfPassages {
    private static final int NONE = Checks.NONE, NO_FLOAT = Checks.NO_FLOAT;
    private static final int LAST = Checks.LAST, LAST_MINUTE = 43199;
    /** SHIPS of harbour(); each comes a unit of DISTANCE in a second, and HASTY has PATIENCE for one minute alone. */
    private static final int LIGHT = 0, HASTY = 1, STILL = 2, BY_ZERO = 3, HALF = 4;
    /** SHOALS of harbour(): without LOCK, three of them, then with LOCKS of 600, 1, 7200 and 60 seconds. */
    private static final int A = 0, B = 1, C = 2, LOCKED = 3, SECOND = 4, LONG = 5, MINUTE = 6;

    private BoundsOfPassages() {
    }

    static void run() {
        waiting();
        waitingAgain();
        longestFirst();
        ownMinutes();
        patiences();
        patienceToTheLastMinute();
        askedOnce();
        findingsOfPatience();
        findingsOfMinutes();
        findingsBetween();
        minutesWithNo();
        locks();
        locksApart();
        locksMetTwice();
        reaches();
        reachesOfNoLength();
        reachesApart();
        legsOfBefore();
        pairsThatPass();
        thoseThatHaveAStart();
        plansThatAreFull();
        passing();
        heldAlready();
        freeAgain();
        digests();
    }

    private static TideDesk harbour() {
        TideDesk x = new TideDesk();
        x.survey(0, 0);
        for (int lock : new int[] {0, 0, 0, 600, 1, 7200, 60}) {
            x.shoal(0, 5000, lock);
        }
        x.ship(1, 0, 100, 0, 0, 0);
        x.ship(3, 0, 100, 29, 0, 0);
        x.ship(1, 0, 0, 0, 0, 0);
        x.ship(2, 0, 100, 0, 0, 0);
        x.ship(4, 0, 100, 0, LIGHT, NONE);
        return x;
    }

    /** A ROUTE over SHOALS at DISTANCES, by turns. */
    private static void route(TideDesk x, int route, int... shoalsAndDistances) {
        x.clear(route);
        for (int i = 0; i < shoalsAndDistances.length; i += 2) {
            int many = x.leg(route, shoalsAndDistances[i], shoalsAndDistances[i + 1], NO_FLOAT);
            Checks.due("a LEG of the test's own", many, i / 2 + 1);
        }
    }

    private static void waiting() {
        Checks.terms("PASSAGES 0 .. 39: a SHIP, a ROUTE, a minute, from which on it may start; it WAITS from the NOW on at"
            + " which it was told, till it is PLANNED: then it has a start, or none.");
        Checks.promise(48, "Of a PASSAGE: 0 whether it WAITS (1, 0), 1 its start (a minute; NONE), 2 the MOMENT from which on"
            + " it WAITED. BAD.");
        TideDesk x = harbour();
        x.passage(LIGHT, 0, 0);
        x.clock(LAST);
        x.passage(LIGHT, 0, LAST_MINUTE);
        x.passage(STILL, 0, 7);
        for (int p = 0; p < 3; p++) {
            planned(x, p, 1, NONE, p == 0 ? 0 : LAST);
        }
        Checks.promise(47, "Those that WAIT are PLANNED: how many of them have a start now.");
        Checks.due("two have a start", x.plan(), 2);
        planned(x, 0, 0, 0, 0);
        planned(x, 1, 0, LAST_MINUTE, LAST);
        planned(x, 2, 0, NONE, LAST);
        Checks.due("none WAITS", x.plan(), 0);
        planned(x, 0, 0, 0, 0);
        planned(x, 2, 0, NONE, LAST);
        x.passage(LIGHT, 0, 3);
        Checks.due("one WAITS", x.plan(), 1);
        planned(x, 3, 0, 3, LAST);
        Checks.dueAll("BAD", Checks.BAD, x.planned(4, 0), x.planned(-1, 0), x.planned(0, 3), x.planned(0, -1),
            x.planned(Checks.MOST, 0), x.planned(0, Checks.LEAST));
    }

    private static void planned(TideDesk x, int p, int waits, int start, int since) {
        Checks.due("whether " + p + " WAITS", x.planned(p, 0), waits);
        Checks.due("start of " + p, x.planned(p, 1), start);
        Checks.due("when " + p + " began to WAIT", x.planned(p, 2), since);
    }

    private static void waitingAgain() {
        Checks.promise(49, "A PASSAGE that is PLANNED WAITS again, from NOW on, without a start: 1. BAD; NO: it WAITS.");
        TideDesk x = harbour();
        x.passage(LIGHT, 0, 9);
        x.passage(STILL, 0, 9);
        x.clock(10);
        Checks.due("it WAITS", x.again(0), Checks.NO);
        planned(x, 0, 1, NONE, 0);
        x.plan();
        planned(x, 0, 0, 9, 0);
        x.clock(20);
        Checks.due("one with a start", x.again(0), 1);
        planned(x, 0, 1, NONE, 20);
        Checks.due("one without", x.again(1), 1);
        planned(x, 1, 1, NONE, 20);
        x.clock(30);
        Checks.dueAll("they WAIT", Checks.NO, x.again(0), x.again(1));
        planned(x, 0, 1, NONE, 20);
        Checks.dueAll("BAD", Checks.BAD, x.again(2), x.again(-1), x.again(Checks.MOST), x.again(Checks.LEAST));
        Checks.due("one has a start again", x.plan(), 1);
        planned(x, 0, 0, 9, 20);
        Harbour.refused(Harbour::make, "NO", Checks.NO, y -> y.again(3));
        Harbour.refused(Harbour::make, "BAD", Checks.BAD, y -> y.again(Harbour.PASSAGES));
    }

    private static void longestFirst() {
        Checks.terms("TO PLAN: all that WAIT, those that WAIT longest first, of like ones by numbers:");
        TideDesk x = harbour();
        route(x, 0, LOCKED, 0);
        for (int p = 0; p < 3; p++) {
            x.passage(HASTY, 0, 0);
        }
        Checks.due("of like ones by numbers", x.plan(), 1);
        planned(x, 0, 0, 0, 0);
        x.clock(1);
        x.again(2);
        x.clock(2);
        x.again(0);
        x.again(1);
        x.passage(HASTY, 0, 0);
        Checks.due("a second longer", x.plan(), 1);
        Checks.due("2 WAITED longest", x.planned(2, 1), 0);
        Checks.dueAll("the others", NONE, x.planned(0, 1), x.planned(1, 1), x.planned(3, 1));
        x.clock(3);
        x.again(2);
        x.again(1);
        x.again(3);
        Checks.due("of like ones by numbers", x.plan(), 1);
        Checks.due("1 ahead of 2 and 3", x.planned(1, 1), 0);
        x.clock(4);
        for (int p = 3; p >= 0; p--) {
            x.again(p);
            x.clock(8 - p);
        }
        Checks.due("one", x.plan(), 1);
        Checks.due("the last number WAITED longest", x.planned(3, 1), 0);
        TideDesk all = harbour();
        route(all, 0, MINUTE, 0);
        for (int p = 0; p < 40; p++) {
            all.passage(LIGHT, 0, 0);
        }
        Checks.due("a minute each, as long as PATIENCE goes", all.plan(), 30);
        for (int p = 0; p < 40; p++) {
            planned(all, p, 0, p < 30 ? p : NONE, 0);
        }
    }

    private static void ownMinutes() {
        Checks.terms("its start is the first minute of those from its own on,");
        TideDesk x = harbour();
        for (int minute : new int[] {0, 1, 1439, 1440, 43198, LAST_MINUTE}) {
            int p = x.passage(LIGHT, 0, minute);
            Checks.due("plan", x.plan(), 1);
            Checks.due("its own minute", x.planned(p, 1), minute);
        }
        x.shoal(0, 29, 0);
        route(x, 1, 7, 0);
        x.gauge(0, 6000, 7200);
        x.clock(6000);
        x.reading(0, 5, 0);
        int[][] starts = {{71, 100}, {99, 100}, {100, 100}, {101, 101}, {70, NONE}};
        for (int[] start : starts) {
            int p = x.passage(LIGHT, 1, start[0]);
            x.plan();
            Checks.due("from " + start[0] + " on", x.planned(p, 1), start[1]);
        }
    }

    /** A desk in which no minute of ROUTE 0 before minute k holds, for LIGHTS and FERRIES of no DRAUGHT. */
    private static TideDesk holdsFrom(int k) {
        TideDesk x = new TideDesk();
        x.survey(0, 0);
        x.shoal(0, 29, 0);
        x.leg(0, 0, 0, NO_FLOAT);
        x.gauge(0, 60 * k, 7200);
        x.clock(60 * k);
        x.reading(0, 100, 0);
        return x;
    }

    private static void patiences() {
        Checks.terms("as many as its PATIENCE says (120 at most, and up to 43199; below 1: none; asked once, ahead of the"
            + " minutes), that holds,");
        // The x of a FERRY, and how many minutes that is.
        int[][] ferries = {{30, 0}, {29, 1}, {28, 2}, {31, 0}, {1000, 0}, {-89, 119}, {-90, 120}, {-91, 120}, {-1000, 120}};
        for (int[] ferry : ferries) {
            for (int more = -1; more <= 1; more++) {
                int k = 1000;
                TideDesk x = holdsFrom(k);
                x.ship(3, 0, 100, ferry[0], 0, 0);
                int own = k - ferry[1] + more;
                x.passage(0, 0, own);
                boolean isInTime = ferry[1] > 0 && more == 1;
                Checks.due("x of " + ferry[0], x.plan(), isInTime ? 1 : 0);
                Checks.due("x of " + ferry[0] + " from " + own + " on", x.planned(0, 1), isInTime ? k : NONE);
            }
        }
        for (int kind : new int[] {0, 1}) {
            int minutes = kind == 0 ? 60 : 30;
            for (int late = 0; late <= 1; late++) {
                TideDesk x = holdsFrom(1000);
                x.dredge(0, 0, kind == 0 ? 99 : 29);
                x.ship(kind, 0, 100, 0, 0, 0);
                x.passage(0, 0, 1001 - minutes - late);
                Checks.due("KIND " + kind, x.plan(), 1 - late);
                Checks.due("KIND " + kind, x.planned(0, 1), late == 0 ? 1000 : NONE);
            }
        }
        // 0 and -1 of two FERRIES are 0, cut; 1 and 0 are 0; 2 and 0 are 1; 120 and 122 are 121.
        int[][] pairs = {{30, 31, 0}, {29, 30, 0}, {28, 30, 1}, {-90, -92, 1}, {0, 1000, 0}};
        for (int[] pair : pairs) {
            TideDesk x = harbour();
            int one = x.ship(3, 0, 100, pair[0], 0, 0);
            int other = x.ship(3, 0, 100, pair[1], 0, 0);
            x.passage(x.ship(4, 0, 0, 0, one, other), 0, 5);
            Checks.due("a PAIR", x.plan(), pair[2]);
            Checks.due("no FINDING", x.count(8), 0);
        }
    }

    private static void patienceToTheLastMinute() {
        Checks.terms("(120 at most, and up to 43199;");
        TideDesk x = holdsFrom(LAST_MINUTE);
        x.ship(1, 0, 100, 0, 0, 0);
        x.passage(0, 0, LAST_MINUTE);
        x.passage(0, 0, LAST_MINUTE - 29);
        x.passage(0, 0, LAST_MINUTE - 30);
        Checks.due("two", x.plan(), 2);
        Checks.due("the last minute itself", x.planned(0, 1), LAST_MINUTE);
        Checks.due("its last minute", x.planned(1, 1), LAST_MINUTE);
        Checks.due("too early", x.planned(2, 1), NONE);
        TideDesk y = harbour();
        int ferry = y.ship(3, 0, 100, -1000, 0, 0);
        route(y, 0, MINUTE, 0);
        for (int i = 0; i < 4; i++) {
            y.passage(ferry, 0, LAST_MINUTE - 2);
        }
        Checks.due("three minutes are left", y.plan(), 3);
        Checks.due("the last", y.planned(2, 1), LAST_MINUTE);
        Checks.due("none beyond", y.planned(3, 1), NONE);
        Checks.due("no FINDING", y.count(8), 0);
    }

    private static void askedOnce() {
        Checks.terms("asked once, ahead of the minutes");
        TideDesk x = harbour();
        route(x, 0, MINUTE, 0);
        x.passage(LIGHT, 0, 0);
        x.passage(LIGHT, 0, 0);
        x.plan();
        Checks.traced("two minutes of the second", x, 41, 10, 20, 30, 50, 41, 10, 20, 30, 50, 10, 20, 30, 50);
        TideDesk y = harbour();
        y.passage(y.ship(3, 0, 100, 30, 0, 0), 0, 0);
        y.plan();
        Checks.traced("no minute", y, 42, 41);
        y.plan();
        Checks.traced("none WAITS", y);
    }

    private static void findingsOfPatience() {
        Checks.terms("(by a FINDING, of PATIENCE or of a minute, it has none)");
        Checks.promise(47, "(FINDINGS, of minutes, too, are in no answer.)");
        TideDesk x = harbour();
        x.passage(HALF, 0, 0);
        x.passage(LIGHT, 0, 4);
        Checks.due("the first has none, the second one", x.plan(), 1);
        planned(x, 0, 0, NONE, 0);
        planned(x, 1, 0, 4, 0);
        Checks.due("one FINDING", x.count(8), 1);
        Checks.due("NULL", x.finding(), 1);
        Checks.traced("no minute of the first", x, 43, 41, 41, 10, 20, 30, 50);
        x.again(0);
        Checks.due("again", x.plan(), 0);
        Checks.due("a FINDING more", x.count(8), 2);
    }

    private static void findingsOfMinutes() {
        Checks.terms("(by a FINDING, of PATIENCE or of a minute, it has none)");
        TideDesk x = harbour();
        int shoal = x.shoal(1, 5000, 0);
        x.survey(1, 1);
        route(x, 0, shoal, 0);
        x.passage(LIGHT, 0, 1439);
        x.passage(LIGHT, 0, 1440);
        x.passage(BY_ZERO, 0, 1440);
        Checks.due("one", x.plan(), 1);
        planned(x, 0, 0, NONE, 0);
        planned(x, 1, 0, 1440, 0);
        planned(x, 2, 0, NONE, 0);
        Checks.due("two FINDINGS, one a PASSAGE", x.count(8), 2);
        Checks.due("the last", x.finding(), 4);
        Checks.traced("one minute each", x, 41, 10, 20, 30, 50, 41, 10, 20, 30, 50, 40, 11, 10, 22, 21, 31, 30);
        // The SURVEY comes with the WATER: the LEG that lacks one is not come to before.
        TideDesk y = holdsFrom(1440);
        int later = y.shoal(1, 5000, 0);
        y.mean(1, 0);
        y.survey(1, 1);
        y.leg(0, later, 0, NO_FLOAT);
        y.ship(1, 0, 100, 0, 0, 0);
        y.passage(0, 0, 1430);
        Checks.due("the dry ones ask no further", y.plan(), 1);
        Checks.due("start", y.planned(0, 1), 1440);
        Checks.due("no FINDING", y.count(8), 0);
    }

    /** Minutes that do not hold, then some with INDEX, then some that hold: none of these is its start. */
    private static void findingsBetween() {
        Checks.terms("of PATIENCE or of a minute, it has none");
        TideDesk x = harbour();
        int shoal = x.shoal(1, 5000, 0);
        x.wave(1, 1000, 1300, 32768);
        x.survey(1, 0);
        x.waters(1, 0, 200);
        int first = x.found(1, 0, 1) == 1 ? 0 : 1;
        // Behind hour 6 of the one HIGH, ahead of hour -6 of the other.
        int begin = (x.found(1, first, 0) + 23399) / 60 + 1;
        int end = (x.found(1, first + 2, 0) - 23400 + 59) / 60;
        x.tide(1, 6, Checks.bits(2.0f));
        x.leg(0, shoal, 0, Checks.bits(1.0f));
        Checks.due("it does not hold", x.holds(LIGHT, 0, begin - 1), 0);
        Checks.due("INDEX", x.holds(LIGHT, 0, begin), Checks.INDEX);
        Checks.due("INDEX", x.holds(LIGHT, 0, end - 1), Checks.INDEX);
        Checks.due("it holds", x.holds(LIGHT, 0, end), 1);
        int[] own = {end - 1, begin - 2, end, begin - 29};
        for (int p = 0; p < own.length; p++) {
            x.passage(LIGHT, 0, own[p]);
            int findings = x.count(8);
            Checks.due("from " + own[p] + " on", x.plan(), p == 2 ? 1 : 0);
            Checks.due("its start", x.planned(p, 1), p == 2 ? end : NONE);
            Checks.due("a FINDING ends it", x.count(8), findings + (p == 2 ? 0 : 1));
            if (p == 1) {
                Checks.traced("three minutes", x, 41, 10, 20, 30, 50, 10, 20, 30, 50, 10, 20, 30, 50);
            }
        }
    }

    private static void minutesWithNo() {
        Checks.terms("that holds, and at which it is not together with one that has a start");
        TideDesk x = harbour();
        route(x, 0, A, 61);
        x.passage(STILL, 5, 0);
        x.passage(LIGHT, 0, LAST_MINUTE);
        x.passage(LIGHT, 0, LAST_MINUTE - 1);
        Checks.due("one", x.plan(), 1);
        Checks.dueAll("NO is no start", NONE, x.planned(0, 1), x.planned(1, 1));
        Checks.due("it comes in time", x.planned(2, 1), LAST_MINUTE - 1);
        Checks.due("NO is no FINDING", x.count(8) + x.finding(), 0);
        Checks.due("NO does not end it: all thirty minutes are asked, a hundred numbers kept", x.trace(99), 30);
    }

    /** Whether the second PASSAGE, with one minute alone, is kept from it by the first. */
    private static void together(String what, boolean are, int[] first, int[] second) {
        for (int turn = 0; turn < 2; turn++) {
            TideDesk x = harbour();
            route(x, 0, turn == 0 ? first : second);
            route(x, 1, turn == 0 ? second : first);
            x.passage(HASTY, 0, 50);
            x.passage(HASTY, 1, 50);
            Checks.due(what + ", turn " + turn, x.plan(), are ? 1 : 2);
            Checks.due(what + ", turn " + turn, x.planned(0, 1), 50);
            Checks.due(what + ", turn " + turn, x.planned(1, 1), are ? NONE : 50);
            Checks.due("no FINDING", x.count(8), 0);
        }
    }

    private static int[] legs(int... all) {
        return all;
    }

    private static void locks() {
        Checks.terms("in a SHOAL with a LOCK (not 0) each is from when it comes to it for LOCK seconds;");
        Checks.terms("two are together, if they are in one SHOAL with a LOCK,");
        int[] locks = {600, 1, 7200, 60};
        for (int i = 0; i < locks.length; i++) {
            int shoal = LOCKED + i;
            together("at once", true, legs(shoal, 0), legs(shoal, 0));
            together("a second before its end", true, legs(shoal, 0), legs(shoal, locks[i] - 1));
            together("at its end", false, legs(shoal, 0), legs(shoal, locks[i]));
            together("a second behind its end", false, legs(shoal, 5), legs(shoal, 5 + locks[i] + 1));
            together("a second before its end", true, legs(shoal, 5), legs(shoal, 5 + locks[i] - 1));
        }
        together("no LOCK", false, legs(A, 0), legs(A, 0));
        TideDesk x = harbour();
        route(x, 0, LOCKED, 0);
        x.passage(LIGHT, 0, 100);
        x.passage(LIGHT, 0, 91);
        x.passage(LIGHT, 0, 90);
        Checks.due("all", x.plan(), 3);
        Checks.due("behind the first, and not ahead of it", x.planned(1, 1), 110);
        Checks.due("ahead of the first", x.planned(2, 1), 90);
    }

    private static void locksApart() {
        Checks.terms("if they are in one SHOAL with a LOCK,");
        together("two SHOALS with LOCKS", false, legs(LOCKED, 0), legs(LONG, 0));
        together("one of several LEGS", true, legs(A, 0, LOCKED, 10), legs(B, 0, C, 5, LOCKED, 10));
        together("the last of four", true, legs(A, 0, A, 0, A, 0, SECOND, 0), legs(B, 0, B, 0, B, 0, SECOND, 0));
        together("the first of four", true, legs(SECOND, 0, A, 0, A, 0, A, 0), legs(SECOND, 0, B, 0, B, 0, B, 0));
        together("the first of one, the last of the other", true, legs(SECOND, 9, A, 9, A, 9, A, 9),
            legs(B, 0, B, 0, B, 0, SECOND, 9));
        together("all of them apart", false, legs(SECOND, 0, LOCKED, 5, LONG, 7), legs(SECOND, 1, MINUTE, 5));
        together("one without LEGS", false, legs(), legs(LONG, 0));
        together("both without LEGS", false, legs(), legs());
    }

    private static void locksMetTwice() {
        Checks.terms("in one SHOAL with a LOCK");
        together("the second time", true, legs(LOCKED, 0, A, 0, LOCKED, 1000), legs(LOCKED, 1500));
        together("between the times", false, legs(MINUTE, 0, A, 0, MINUTE, 1000), legs(MINUTE, 60));
        together("between the times", false, legs(MINUTE, 0, A, 0, MINUTE, 1000), legs(MINUTE, 940));
        together("a second before the second time", true, legs(MINUTE, 0, A, 0, MINUTE, 1000), legs(MINUTE, 941));
        TideDesk x = harbour();
        route(x, 0, LOCKED, 0, LOCKED, 1);
        x.passage(LIGHT, 0, 0);
        Checks.due("none is together with itself", x.plan(), 1);
    }

    private static void reaches() {
        Checks.terms("in a REACH, from the SHOAL of a LEG to that of the next one, from when it comes to the one till it"
            + " comes to the other;");
        Checks.terms("or in REACHES between the same two SHOALS (whichever way; perhaps one SHOAL twice), and each begins to"
            + " be there ahead of the other's end");
        for (int way = 0; way < 3; way++) {
            int from = A;
            int to = way == 2 ? A : B;
            int p = way == 1 ? B : from;
            int q = way == 1 ? A : to;
            together("way " + way + ", at once", true, legs(from, 100, to, 200), legs(p, 100, q, 200));
            together("way " + way + ", a second ahead of its end", true, legs(from, 100, to, 200), legs(p, 199, q, 300));
            together("way " + way + ", at its end", false, legs(from, 100, to, 200), legs(p, 200, q, 300));
            together("way " + way + ", behind its end", false, legs(from, 100, to, 200), legs(p, 201, q, 300));
            together("way " + way + ", within it", true, legs(from, 100, to, 200), legs(p, 150, q, 151));
            together("way " + way + ", round it", true, legs(from, 100, to, 200), legs(p, 0, q, 5000));
            together("way " + way + ", its first second", true, legs(from, 100, to, 200), legs(p, 0, q, 101));
            together("way " + way + ", till it begins", false, legs(from, 100, to, 200), legs(p, 0, q, 100));
            together("way " + way + ", of a second", true, legs(from, 100, to, 101), legs(p, 100, q, 101));
        }
    }

    private static void reachesOfNoLength() {
        Checks.terms("and each begins to be there ahead of the other's end");
        together("both of no length", false, legs(A, 100, B, 100), legs(A, 100, B, 100));
        together("within the other", true, legs(A, 100, B, 200), legs(A, 150, B, 150));
        together("within the other, by a second", true, legs(A, 100, B, 200), legs(B, 101, A, 101));
        together("as the other begins", false, legs(A, 100, B, 200), legs(A, 100, B, 100));
        together("as the other ends", false, legs(A, 100, B, 200), legs(A, 200, B, 200));
        together("a second ahead of that", true, legs(A, 100, B, 200), legs(A, 199, B, 199));
    }

    private static void reachesApart() {
        Checks.terms("in REACHES between the same two SHOALS");
        together("from one SHOAL to others", false, legs(A, 0, B, 100), legs(A, 0, C, 100));
        together("to one SHOAL from others", false, legs(A, 0, B, 100), legs(C, 0, B, 100));
        together("of one SHOAL twice, and of two", false, legs(A, 0, A, 100), legs(A, 0, B, 100));
        together("of one SHOAL twice, and of another twice", false, legs(A, 0, A, 100), legs(B, 0, B, 100));
        together("by another SHOAL", false, legs(A, 0, C, 50, B, 100), legs(A, 0, B, 100));
        together("the last REACH of three", true, legs(A, 0, A, 0, A, 0, B, 100), legs(C, 0, C, 0, A, 9, B, 50));
        together("the first REACH of three", true, legs(A, 0, B, 100, C, 100, C, 100), legs(B, 0, A, 100, A, 100, A, 100));
        together("the first of one, the last of the other", true, legs(A, 0, B, 100, B, 100, B, 100),
            legs(C, 0, C, 0, A, 99, B, 200));
        together("the middle REACH of three", true, legs(C, 0, A, 10, B, 100, C, 200), legs(B, 20, A, 90));
        together("the middle REACH of three, at its end", false, legs(C, 0, A, 10, B, 100, C, 200), legs(B, 100, A, 190));
        together("with LOCKS, too", true, legs(SECOND, 0, LONG, 7300), legs(LONG, 0, SECOND, 100));
        together("one LEG is no REACH", false, legs(A, 0), legs(A, 0, B, 100));
        together("none behind the last LEG", false, legs(A, 0, B, 100), legs(B, 0));
        together("none from the last LEG to the first", false, legs(A, 0, C, 10, B, 100), legs(B, 0, A, 100));
    }

    /** ROUTE 0 had LEGS more before it was cleared; a SHIP came to such LEGS on ROUTE 1 just before. */
    private static void legsOfBefore() {
        Checks.promise(39, "A ROUTE has no LEGS: how many it had.");
        int[][] before = {{A, 0, B, 600}, {A, 0, LOCKED, 100}, {A, 0, B, 5, LOCKED, 100}, {A, 0, B, 0, C, 0, LOCKED, 100}};
        for (int[] legs : before) {
            for (int turn = 0; turn < 2; turn++) {
                TideDesk x = harbour();
                route(x, 1, legs);
                route(x, 0, legs);
                route(x, 0, A, 0);
                Checks.due("it comes to all of them", x.holds(LIGHT, 1, 2), 1);
                x.passage(HASTY, turn, 0);
                x.passage(HASTY, 1 - turn, 0);
                Checks.due("no LEG of before hinders", x.plan(), 2);
            }
        }
    }

    /** PAIRS four deep are asked all the same by what is done with a PASSAGE, and by minutes. */
    private static void pairsThatPass() {
        Checks.terms("(PAIRS, too: 4 one in the other at most)");
        TideDesk x = harbour();
        int pair = LIGHT;
        for (int i = 0; i < 4; i++) {
            pair = x.ship(4, 0, 0, 0, pair, LIGHT);
        }
        route(x, 0, LOCKED, 100);
        Checks.due("comes", x.comes(pair, 0, 0, 0), 100);
        Checks.due("holds", x.holds(pair, 0, 5), 1);
        Checks.due("windows", x.windows(pair, 0, 5, 9), 1);
        Checks.due("wrong", x.wrong(0), 0);
        int p = x.passage(pair, 0, 7);
        Checks.due("plan", x.plan(), 1);
        Checks.due("start", x.planned(p, 1), 7);
        passed(x, p, 1, 1, 12, 12, 12, 12, 10, 20, 10, 20, 10, 20, 10, 20, 10, 20, 32, 32, 32, 32, 30, 30, 30, 30, 30, 43, 43,
            43, 43, 41, 41, 41, 41, 41);
        Checks.due("no FINDING", x.count(8), 0);
    }

    private static void thoseThatHaveAStart() {
        Checks.terms("and at which it is not together with one that has a start");
        Checks.terms("(one that has a start comes as when it was PLANNED; nothing is asked of it again).");
        TideDesk x = harbour();
        route(x, 0, LOCKED, 0);
        x.passage(HASTY, 0, 50);
        x.passage(HASTY, 0, 55);
        x.passage(HASTY, 0, 59);
        x.plan();
        Checks.due("the first", x.planned(0, 1), 50);
        Checks.due("together with the first", x.planned(1, 1), NONE);
        Checks.due("not hindered by one that has none", x.planned(2, 1), NONE);
        x.again(1);
        x.plan();
        Checks.traced("nothing is asked of the first", x, 42, 41, 10, 23, 20, 30, 50);
        Checks.due("together with one PLANNED before", x.planned(1, 1), NONE);
        x.again(0);
        x.clock(1);
        x.again(2);
        Checks.due("0 is first, for it WAITS longest", x.plan(), 1);
        Checks.due("0", x.planned(0, 1), 50);
        x.again(0);
        x.again(2);
        x.clock(2);
        x.passage(HASTY, 0, 60);
        Checks.due("0 and 3", x.plan(), 2);
        Checks.dueAll("2 is together with 0", NONE, x.planned(1, 1), x.planned(2, 1));
        Checks.due("3", x.planned(3, 1), 60);
        x.again(0);
        x.clock(3);
        x.again(2);
        x.again(1);
        Checks.due("one that WAITS again hinders none", x.planned(0, 1), NONE);
        Checks.due("0 alone, ahead of 1 and 2", x.plan(), 1);
        // PLANNED at a WATER that is no more.
        TideDesk y = holdsFrom(100);
        int locked = y.shoal(0, 5000, 7200);
        y.leg(0, locked, 0, NO_FLOAT);
        y.leg(1, locked, 0, NO_FLOAT);
        y.ship(1, 0, 100, 0, 0, 0);
        y.passage(0, 0, 100);
        Checks.due("PLANNED", y.plan(), 1);
        y.out(0, true);
        y.passage(0, 1, 219);
        y.passage(0, 1, 120);
        y.plan();
        Checks.due("its minute holds no more, but it has it", y.planned(0, 1), 100);
        Checks.due("it is in the LOCK till minute 220", y.planned(1, 1), 220);
        Checks.due("none is left for the other", y.planned(2, 1), NONE);
    }

    private static void plansThatAreFull() {
        Checks.promise(47, "FULL (ahead of all of them alone).");
        TideDesk x = harbour();
        route(x, 0, x.shoal(1, 5000, 0), 0);
        for (int i = 0; i < 24; i++) {
            x.windows(LIGHT, 0, 0, 120);
        }
        x.windows(LIGHT, 0, 0, 119);
        Checks.due("2999 FINDINGS", x.count(8), 2999);
        for (int i = 0; i < 39; i++) {
            x.passage(i == 20 ? HALF : LIGHT, 0, 0);
        }
        x.passage(LIGHT, 5, 8);
        Checks.due("all of them are PLANNED", x.plan(), 1);
        Checks.due("FINDINGS", x.count(8), 2999 + 39);
        for (int p = 0; p < 40; p++) {
            planned(x, p, 0, p == 39 ? 8 : NONE, 0);
        }
        x.again(39);
        x.clock(1);
        Checks.due("FULL", x.plan(), Checks.FULL);
        planned(x, 39, 1, NONE, 0);
        Checks.due("no FINDING more", x.count(8), 2999 + 39);
        Checks.due("THE TRACE stays", x.trace(0), 41);
        Harbour.refused(Harbour::spent, "FULL", Checks.FULL, TideDesk::plan);
    }

    private static void passing() {
        Checks.terms("TO PASS (a PASSAGE): a TRY is counted (not by BAD, FULL); its SHIP's NEED is asked; then for each LEG,"
            + " in order, with a LOCK: the SHOAL is HELD (HELD: it is already), and within that what is behind it is done,"
            + " at last (with all of them HELD) the SHIP's PACE and then its PATIENCE are asked;");
        Checks.promise(50, "A PASSAGE PASSES: 1. BAD; FULL; NULL, ZERO, HELD.");
        Checks.promise(51, "How many TRIES.");
        Checks.promise(52, "SHOALS that are HELD now (what = 0), at once at most by the latest pass() that was not refused by"
            + " BAD, FULL (1; 0 before). BAD.");
        TideDesk x = harbour();
        Checks.dueAll("before", 0, x.tries(), x.held(0), x.held(1));
        Checks.dueAll("BAD", Checks.BAD, x.held(2), x.held(-1), x.held(Checks.MOST), x.held(Checks.LEAST));
        int[][] routes = {{}, {A, 0, A, 0}, {LOCKED, 0}, {LOCKED, 0, A, 0, SECOND, 0}, {A, 0, LONG, 0, MINUTE, 0, SECOND, 0},
            {SECOND, 0, LONG, 0, MINUTE, 0, LOCKED, 0}};
        int[] most = {0, 0, 1, 2, 3, 4};
        for (int route = 0; route < 6; route++) {
            route(x, route, routes[route]);
            int p = x.passage(LIGHT, route, 0);
            passed(x, p, 1, most[route], 10, 20, 30, 41);
            Checks.due("it WAITS still", x.planned(p, 0), 1);
        }
        Checks.due("TRIES", x.tries(), 6);
        Checks.due("no FINDING", x.finding(), 0);
        Checks.dueAll("BAD", Checks.BAD, x.pass(6), x.pass(-1), x.pass(Checks.MOST), x.pass(Checks.LEAST));
        Checks.due("BAD is no TRY", x.tries(), 6);
        Checks.due("BAD leaves it", x.held(1), 4);
        x.plan();
        passed(x, 2, 1, 1, 10, 20, 30, 41);
        Checks.due("its start stays", x.planned(2, 1), 0);
        int half = x.passage(HALF, 5, 0);
        passed(x, half, Checks.NULL, 0, 12, 10, 20);
        Checks.due("NULL is a TRY", x.tries(), 8);
        int zero = x.passage(BY_ZERO, 5, 0);
        passed(x, zero, Checks.ZERO, 4, 11, 10, 22, 21, 31, 30);
        Checks.due("ZERO is a TRY", x.tries(), 9);
        passed(x, x.passage(STILL, 5, 0), 1, 4, 10, 20, 30, 41);
        passed(x, x.passage(x.ship(2, 0, 9, 3, 0, 0), 0, 0), 1, 0, 11, 10, 22, 21, 31, 30, 40);
        passed(x, zero, Checks.ZERO, 4, 11, 10, 22, 21, 31, 30);
        Checks.due("TRIES", x.tries(), 12);
        Checks.due("FINDINGS", x.count(8), 3);
    }

    private static void passed(TideDesk x, int p, int answer, int most, int... bodies) {
        Checks.due("pass(" + p + ")", x.pass(p), answer);
        if (answer < -10) {
            Checks.due("finding()", x.finding(), -10 - answer);
        }
        Checks.traced("pass(" + p + ")", x, bodies);
        Checks.due("held now", x.held(0), 0);
        Checks.due("held at most", x.held(1), most);
    }

    private static void heldAlready() {
        Checks.terms("the SHOAL is HELD (HELD: it is already)");
        int[][] routes = {{LOCKED, 0, LOCKED, 0}, {SECOND, 0, A, 0, SECOND, 50}, {LONG, 0, SECOND, 0, LONG, 0},
            {LONG, 0, SECOND, 0, SECOND, 0, MINUTE, 0}, {LONG, 0, SECOND, 0, MINUTE, 0, LONG, 0}, {A, 0, B, 0, A, 0, B, 0}};
        int[] most = {1, 1, 2, 2, 3, 0};
        for (int ship : new int[] {LIGHT, STILL}) {
            TideDesk x = harbour();
            for (int route = 0; route < 6; route++) {
                route(x, route, routes[route]);
                int p = x.passage(ship, route, 0);
                if (route == 5) {
                    passed(x, p, 1, 0, 10, 20, 30, 41);
                } else {
                    passed(x, p, Checks.HELD, most[route], 10, 20);
                }
            }
            Checks.due("TRIES", x.tries(), 6);
            Checks.due("FINDINGS", x.count(8), 5);
        }
        TideDesk x = harbour();
        route(x, 0, LOCKED, 0, LOCKED, 0);
        passed(x, x.passage(BY_ZERO, 0, 0), Checks.HELD, 1, 11, 10, 22, 21);
        passed(x, x.passage(HALF, 0, 0), Checks.NULL, 0, 12, 10, 20);
        Harbour.stopped(Harbour::make, "HELD", Checks.HELD, 8, y -> y.pass(4), 10, 20);
        Harbour.stopped(Harbour::make, "NULL", Checks.NULL, 1, y -> y.pass(2), 12, 10, 20);
    }

    private static void freeAgain() {
        Checks.terms("each SHOAL is free again behind that, whatever came.");
        TideDesk x = harbour();
        route(x, 0, LOCKED, 0, LONG, 0);
        route(x, 1, LOCKED, 0, LONG, 0, LOCKED, 0);
        route(x, 2, LONG, 0, LOCKED, 0);
        int both = x.passage(LIGHT, 0, 0);
        int held = x.passage(LIGHT, 1, 0);
        int back = x.passage(LIGHT, 2, 0);
        int zero = x.passage(BY_ZERO, 0, 0);
        for (int p : new int[] {both, both, held, back, zero, both, held, held, back, zero, back, both}) {
            int answer = p == held ? Checks.HELD : p == zero ? Checks.ZERO : 1;
            Checks.due("pass(" + p + ")", x.pass(p), answer);
            Checks.due("held now", x.held(0), 0);
            Checks.due("held at most", x.held(1), 2);
        }
        Checks.due("TRIES", x.tries(), 12);
        TideDesk sixteen = new TideDesk();
        sixteen.ship(1, 0, 100, 0, 0, 0);
        for (int shoal = 0; shoal < 16; shoal++) {
            sixteen.shoal(0, 0, 1 + shoal);
        }
        for (int first = 0; first < 16; first += 4) {
            route(sixteen, first / 4, first, 0, first + 1, 0, first + 2, 0, first + 3, 0);
            sixteen.passage(LIGHT, first / 4, 0);
        }
        for (int turn = 0; turn < 8; turn++) {
            passed(sixteen, turn % 4, 1, 4, 10, 20, 30, 41);
        }
        Harbour.refused(Harbour::spent, "FULL is no TRY", Checks.FULL, y -> y.pass(0));
        Harbour.refused(Harbour::spent, "BAD ahead of FULL", Checks.BAD, y -> y.pass(Harbour.PASSAGES));
    }

    private static void digests() {
        Checks.promise(55, "h = 7; for each PASSAGE in order h = 31 h + its start (NONE: -1); an int.");
        TideDesk x = harbour();
        Checks.due("none", x.digest(), 7);
        x.passage(LIGHT, 0, 5);
        Checks.due("one that WAITS", x.digest(), 7 * 31 - 1);
        x.plan();
        Checks.due("one with a start", x.digest(), 7 * 31 + 5);
        x.passage(STILL, 0, 5);
        x.plan();
        Checks.due("one more, without", x.digest(), (7 * 31 + 5) * 31 - 1);
        x.again(0);
        Checks.due("the first WAITS again", x.digest(), (7 * 31 - 1) * 31 - 1);
        TideDesk y = harbour();
        int h = 7;
        long wide = 7;
        for (int p = 0; p < 40; p++) {
            y.passage(LIGHT, 0, LAST_MINUTE - p);
            y.plan();
            h = 31 * h + LAST_MINUTE - p;
            wide = p < 7 ? 31 * wide + LAST_MINUTE - p : wide;
            Checks.due("digest of " + (p + 1), y.digest(), h);
        }
        Checks.dueTrue("it wraps", wide > Checks.MOST);
    }
}
