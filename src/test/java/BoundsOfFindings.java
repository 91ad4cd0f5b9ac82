/** FINDINGS: their kinds, which answer comes first, what is FULL once 3000 have come, what is told of them. */
final class BoundsOfFindings {
    private static final int NONE = Checks.NONE, BAD = Checks.BAD, FULL = Checks.FULL;
    private static final int LAST = Checks.LAST, NO_FLOAT = Checks.NO_FLOAT, ALLOWED = 3000;
    private static final long NO_REAL = Checks.NO_REAL;

    /** The calls that are FULL once 3000 FINDINGS have come, on a harbour where each would have its answer. */
    private static final String[] NAMES = {"height", "force", "reading", "at", "air", "compare", "surge", "depth", "water",
        "waters", "range", "stream", "ask", "as", "fleet", "join", "member", "move", "shared", "comes", "holds", "windows",
        "plan", "pass"};
    private static final Checks.Act[] FIT = {x -> x.height(0, 90000, 90000), x -> x.force(0, 90000, 90000),
        x -> x.reading(0, 7, 7), x -> x.at(0, 0), x -> x.air(0, 0), x -> x.compare(0, 0, 2), x -> x.surge(0, 90000),
        x -> x.depth(0, 90000, 90000), x -> x.water(0, 90000), x -> x.waters(0, 90000, 90), x -> x.range(0, 0),
        x -> x.stream(0, x.found(0, 0, 0)), x -> x.ask(0, 0), x -> x.as(2, 0), x -> x.fleet(0, 1, 2), x -> x.join(0, 0, 3),
        x -> x.member(0, 1), x -> x.move(0, 0, 0, 1, 2), x -> x.shared(0, 90), x -> x.comes(0, 0, 1, 9),
        x -> x.holds(1, 0, 1500), x -> x.windows(1, 4, 0, 1), TideDesk::plan, x -> x.pass(0)};
    /** The same calls with a number that is not as told; plan() has none. */
    private static final Checks.Act[] UNFIT = {x -> x.height(0, 90000, 90101), x -> x.force(12, 90000, 90000),
        x -> x.reading(0, 32768, 7), x -> x.at(3, 0), x -> x.air(3, 0), x -> x.compare(3, 0, 2), x -> x.surge(0, -1),
        x -> x.depth(4, 90000, 90000), x -> x.water(0, LAST + 1), x -> x.waters(0, 90000, 201), x -> x.range(0, 99),
        x -> x.stream(12, 0), x -> x.ask(0, 5), x -> x.as(2, 5), x -> x.fleet(0, 1, 9), x -> x.join(0, 0, 7),
        x -> x.member(4, 1), x -> x.move(0, 0, 4, 1, 2), x -> x.shared(0, -1), x -> x.comes(0, 0, 3, 9),
        x -> x.holds(1, 0, 43200), x -> x.windows(1, 4, 0, 121), null, x -> x.pass(Harbour.PASSAGES)};
    /** The same calls with a FINDING each. */
    private static final Checks.Act[] FINDING = {x -> x.height(2, 90000, 90000), x -> x.force(2, 90000, 90000),
        x -> x.reading(2, 7, 7), x -> x.at(0, 3), x -> x.air(2, 0), x -> x.compare(0, 0, 3), x -> x.surge(0, 0),
        x -> x.depth(3, 90000, 90000), x -> x.water(3, 90000), x -> x.waters(2, 90000, 90), BoundsOfFindings::rangeOfHighs,
        x -> x.stream(0, LAST), x -> x.ask(6, 2), x -> x.as(0, 1), x -> x.fleet(0, 1, -1), x -> x.join(1, 0, 3),
        x -> x.member(3, 1), x -> x.move(0, 0, 1, 2, 2), x -> x.shared(2, 90), x -> x.comes(5, 0, 1, 9),
        x -> x.holds(1, 2, 1500), x -> x.windows(1, 2, 0, 1), TideDesk::plan, x -> x.pass(4)};
    private static final int[] KINDS = {1, 1, 1, 2, 1, 2, 7, 1, 1, 1, 7, 2, 4, 3, 5, 6, 1, 2, 4, 1, 1, 1, 1, 8};

    private BoundsOfFindings() {
    }

    static void run() {
        kinds();
        firstThatFits();
        threeThousand();
        findingsBehindFull();
        beyondThreeThousand();
        fullAheadOfLateNo();
        othersAreNotFull();
        eachIsCounted();
        latestFinding();
        latestOfManyMinutes();
        counts();
        words();
    }

    private static long refusalOf(int call, int otherwise) {
        switch (NAMES[call]) {
            case "height":
            case "surge":
            case "depth":
            case "water":
            case "range":
                return NO_REAL;
            case "air":
            case "stream":
                return NO_FLOAT;
            case "at":
                return Checks.FAR_BAD;
            default:
                return otherwise;
        }
    }

    private static void kinds() {
        Checks.terms("FINDINGS: 1 NULL, 2 INDEX, 3 CAST, 4 ZERO, 5 SIZE (fewer than none), 6 STORE, 7 LACK, 8 HELD.");
        Checks.terms("then the FINDING: -10 less it (a REAL, a FLOAT: NO NUMBER, for BAD too).");
        Checks.Act[] acts = {x -> x.member(3, 0), x -> x.member(0, 4), x -> x.as(0, 1), x -> x.shared(2, 5),
            x -> x.fleet(1, 0, -1), x -> x.join(1, 0, 1), null, x -> x.pass(4)};
        for (int kind = 1; kind <= 8; kind++) {
            if (kind != 7) {
                TideDesk x = Harbour.make();
                Checks.due("FINDING " + kind, acts[kind - 1].on(x), -10 - kind);
                Checks.due("finding()", x.finding(), kind);
            }
        }
        TideDesk x = Harbour.make();
        Checks.due("LACK of a REAL", x.surge(0, 0), NO_REAL);
        Checks.due("finding()", x.finding(), 7);
        x.leg(4, 2, 0, 0);
        x.sun(0, 86400);
        Checks.due("LACK, as a number", x.holds(1, 4, 1500), Checks.LACK);
        Checks.due("a FLOAT", x.air(0, 3), NO_FLOAT);
        Checks.due("finding()", x.finding(), 2);
        Checks.dueAll("a REAL that is BAD", NO_REAL, x.height(12, 0, 0), x.surge(9, 0), x.depth(9, 0, 0), x.water(9, 0),
            x.range(12, 0));
        Checks.dueAll("a FLOAT that is BAD", NO_FLOAT, x.air(9, 0), x.stream(12, 0));
        Checks.due("BAD is no FINDING", x.finding(), 2);
        for (int call = 0; call < NAMES.length; call++) {
            TideDesk y = call == 22 ? waitingWithFinding() : Harbour.make();
            int before = y.count(8);
            long due = NAMES[call].equals("at") ? -100000 - KINDS[call] : refusalOf(call, -10 - KINDS[call]);
            // windows() and plan() tell no FINDING by their answer.
            due = NAMES[call].equals("windows") || NAMES[call].equals("plan") ? 0 : due;
            Checks.due(NAMES[call], FINDING[call].on(y), due);
            Checks.due(NAMES[call] + ", finding()", y.finding(), KINDS[call]);
            Checks.due(NAMES[call] + ", FINDINGS ever", y.count(8), before + 1);
        }
    }

    /** RANGE 0 of a STATION whose first WATERS are both HIGH. */
    private static long rangeOfHighs(TideDesk x) {
        for (int day = 0; day < 3; day++) {
            x.mean(5, 100 * day);
            x.survey(5, day);
        }
        x.waters(5, 0, 100);
        return x.range(5, 0);
    }

    /** A desk in which one PASSAGE WAITS, and no minute of it is without a FINDING. */
    private static TideDesk waitingWithFinding() {
        TideDesk x = Harbour.make();
        x.plan();
        x.passage(1, 2, 5);
        return x;
    }

    /** A harbour in which so many FINDINGS have come. */
    private static TideDesk after(int findings) {
        return filled(Harbour.make(), findings);
    }

    private static TideDesk filled(TideDesk x, int findings) {
        int left = findings - x.count(8) - 1;
        for (int i = 0; i < left / 120; i++) {
            x.windows(1, 2, 0, 120);
        }
        if (left % 120 > 0) {
            x.windows(1, 2, 0, left % 120);
        }
        // WINDOWS and THE TRACE as they were; then the last one.
        x.windows(1, 0, 1500, 60);
        x.ask(3, 0);
        x.member(3, 0);
        Checks.due("FINDINGS of the test's own", x.count(8), findings);
        return x;
    }

    private static void firstThatFits() {
        Checks.terms("Answers, the first of these that fits: BAD (a number is not as told, or names nothing), NO (as told),"
            + " FULL, then the FINDING: -10 less it");
        TideDesk x = new TideDesk();
        x.gauge(0, 0, 60);
        x.clock(119 * 60);
        for (int i = 0; i < 120; i++) {
            x.reading(0, 0, 0);
        }
        x.out(0, true);
        Checks.due("BAD, NO, FULL, NULL", x.reading(0, 32768, 0), BAD);
        Checks.due("NO, FULL, NULL", x.reading(0, 0, 0), Checks.NO);
        x.clock(120 * 60);
        Checks.due("FULL, NULL", x.reading(0, 0, 0), FULL);
        Checks.due("BAD, FULL, NULL", x.reading(1, 0, 0), BAD);
        x.gauge(0, 0, 60);
        x.out(1, true);
        Checks.due("no FINDING yet", x.count(8), 0);
        Checks.due("NULL", x.reading(1, 0, 0), Checks.NULL);
        Checks.terms("What is refused changes nothing but finding(), THE TRACE, tries(), and as told.");
        for (int call = 0; call < NAMES.length; call++) {
            if (UNFIT[call] != null) {
                Harbour.refused(Harbour::make, NAMES[call], refusalOf(call, BAD), UNFIT[call]);
            }
        }
    }

    private static void threeThousand() {
        Checks.terms("3000 FINDINGS may come ever (those of minutes of windows and plans, too; one call may go beyond): then"
            + " height(), force(), reading(), at(), air(), compare(), surge(), depth(), water(), waters(), range(),"
            + " stream(), ask(), as(), fleet(), join(), member(), move(), shared(), comes(), holds(), windows(), plan() and"
            + " pass() are FULL (a REAL, a FLOAT: NO NUMBER), behind BAD and NO.");
        for (int call = 0; call < NAMES.length; call++) {
            TideDesk fresh = Harbour.make();
            TideDesk nearly = after(ALLOWED - 1);
            long answer = FIT[call].on(fresh);
            long refusal = refusalOf(call, FULL);
            Checks.dueTrue(NAMES[call] + " has an answer", answer != refusal && answer != refusalOf(call, BAD));
            Checks.due(NAMES[call] + " behind 2999", FIT[call].on(nearly), answer);
            Harbour.refused(() -> after(ALLOWED), NAMES[call] + " behind 3000", refusal, FIT[call]);
            if (UNFIT[call] != null) {
                Harbour.refused(() -> after(ALLOWED), NAMES[call] + ", BAD", refusalOf(call, BAD), UNFIT[call]);
            }
        }
        TideDesk x = after(ALLOWED);
        x.gauge(0, Harbour.NOW + 1, 60);
        Checks.due("NO ahead of FULL", x.reading(3, 0, 0), Checks.NO);
        x.clock(Harbour.NOW + 1);
        Checks.due("FULL", x.reading(3, 0, 0), FULL);
        x.out(3, true);
        Checks.due("FULL ahead of NULL", x.reading(3, 0, 0), FULL);
    }

    private static void findingsBehindFull() {
        Checks.terms("3000 FINDINGS may come ever");
        for (int call = 0; call < NAMES.length; call++) {
            if (call != 22) {
                TideDesk x = after(ALLOWED - 1);
                FINDING[call].on(x);
                Checks.due(NAMES[call] + ": the 3000th", x.count(8), ALLOWED);
                Checks.due(NAMES[call] + ": it is told", x.finding(), KINDS[call]);
                Checks.due(NAMES[call] + ": no other comes", FINDING[call].on(x), refusalOf(call, FULL));
                Checks.due(NAMES[call] + ": no other comes", x.count(8), ALLOWED);
                Checks.due("all others are FULL", x.as(0, 0), FULL);
            }
        }
        TideDesk x = after(ALLOWED - 1);
        Checks.due("STORE is the 3000th: those ahead have come", x.move(0, 1, 1, 0, 3), Checks.STORE);
        TideDesk y = after(ALLOWED);
        Checks.due("STORE would be the 3001st", y.move(0, 1, 1, 0, 3), FULL);
        Checks.due("finding() stays", y.finding(), 1);
    }

    private static void beyondThreeThousand() {
        Checks.terms("(those of minutes of windows and plans, too; one call may go beyond)");
        TideDesk x = after(ALLOWED - 1);
        Checks.due("120 more", x.windows(1, 2, 0, 120), 0);
        Checks.due("FINDINGS", x.count(8), ALLOWED + 119);
        Checks.due("all of them", x.wrong(0), 120);
        Checks.due("then it is FULL", x.windows(1, 4, 0, 1), FULL);
        TideDesk y = Harbour.make();
        y.plan();
        for (int i = 0; i < 3; i++) {
            y.passage(1, 2, i);
        }
        filled(y, ALLOWED - 1);
        Checks.due("a minute of each", y.plan(), 0);
        Checks.due("FINDINGS", y.count(8), ALLOWED + 2);
        Checks.due("then it is FULL", y.plan(), FULL);
        TideDesk z = after(ALLOWED - 1);
        Checks.due("a minute that holds is no FINDING", z.holds(1, 0, 1500), 1);
        Checks.due("NO is none", z.holds(1, 0, 43199), Checks.NO);
        Checks.due("BAD is none", z.holds(1, 0, 43200), BAD);
        Checks.due("not yet FULL", z.as(0, 0), 1);
    }

    private static void fullAheadOfLateNo() {
        Checks.promise(41, "BAD; FULL; NULL, ZERO, and then NO.");
        Harbour.stopped(() -> after(ALLOWED - 1), "NO", Checks.NO, 0, x -> x.comes(0, 0, 1, LAST), 30);
        Harbour.refused(() -> after(ALLOWED), "FULL ahead of NO", FULL, x -> x.comes(0, 0, 1, LAST));
        Checks.promise(42, "BAD; FULL; NO and FINDINGS, as they are met.");
        Harbour.refused(() -> after(ALLOWED), "FULL ahead of NO", FULL, x -> x.holds(1, 0, 43199));
        Checks.promise(50, "BAD; FULL; NULL, ZERO, HELD.");
        Harbour.refused(() -> after(ALLOWED), "FULL ahead of HELD", FULL, x -> x.pass(4));
    }

    private static void othersAreNotFull() {
        Checks.terms("behind BAD and NO.");
        Checks.Act[] others = {x -> x.clock(Harbour.NOW), x -> x.mean(0, 9), x -> x.wave(0, 1, 2, 3), x -> x.survey(0, 3),
            x -> x.cos(77), x -> x.gauge(0, 0, 60), x -> x.out(0, true), x -> x.out(0, false), x -> x.rule(0, 4),
            TideDesk::lacking, x -> x.shoal(0, 0, 0), x -> x.dredge(0, 0, 0), x -> x.found(0, 0, 0), x -> x.found(0, 99, 0),
            x -> x.spring(0, true), x -> x.spring(1, false), x -> x.tide(0, 0, 0), x -> x.ship(4, 0, 0, 0, 0, 4),
            TideDesk::asked, x -> x.leg(1, 0, 50000, 0), x -> x.clear(1), x -> x.sun(5, 6), x -> x.window(0, true),
            x -> x.window(0, false), x -> x.wrong(0), x -> x.wrong(1), x -> x.passage(0, 0, 0), x -> x.planned(0, 1),
            x -> x.again(2), x -> x.again(3), TideDesk::tries, x -> x.held(0), x -> x.held(1), x -> x.count(0),
            TideDesk::digest, x -> x.trace(0), x -> x.trace(4)};
        TideDesk fresh = after(Harbour.make().count(8) + 1);
        TideDesk spent = after(ALLOWED);
        for (int i = 0; i < others.length; i++) {
            Checks.due("call " + i + " is as before", others[i].on(spent), others[i].on(fresh));
        }
        Checks.due("FINDINGS", spent.count(8), ALLOWED);
        Checks.due("finding()", spent.finding(), 1);
    }

    private static void eachIsCounted() {
        Checks.promise(53, "8 FINDINGS ever.");
        TideDesk x = new TideDesk();
        x.ship(0, 0, 0, 0, 0, 0);
        for (int i = 1; i <= 200; i++) {
            Checks.due("CAST", x.as(0, 1), Checks.CAST);
            Checks.due("how many", x.count(8), i);
        }
        x.as(0, 5);
        x.as(0, 0);
        x.spring(0, true);
        x.found(0, 0, 0);
        Checks.due("BAD, NONE and what goes well are none", x.count(8), 200);
    }

    private static void latestFinding() {
        Checks.promise(54, "The FINDING of the latest call that had one (of windows(), plan(): the last one that came, by a"
            + " minute or a PATIENCE); 0.");
        TideDesk x = new TideDesk();
        Checks.due("none", x.finding(), 0);
        x.ship(0, 0, 0, 0, 0, 0);
        Checks.due("BAD", x.as(1, 0), BAD);
        Checks.due("NO", x.holds(0, 0, 0), Checks.NO);
        Checks.due("none", x.finding(), 0);
        x.fleet(0, 0, -1);
        Checks.due("SIZE", x.finding(), 5);
        x.as(1, 0);
        x.holds(0, 0, 0);
        x.as(0, 0);
        x.ask(0, 0);
        x.windows(0, 0, 0, 5);
        x.plan();
        Checks.due("SIZE still", x.finding(), 5);
        x.member(0, 0);
        Checks.due("NULL", x.finding(), 1);
        x.as(0, 1);
        Checks.due("CAST", x.finding(), 3);
        Checks.due("asked twice", x.finding(), 3);
        x.stream(0, 0);
        Checks.due("LACK", x.finding(), 7);
    }

    private static void latestOfManyMinutes() {
        Checks.promise(54, "(of windows(), plan(): the last one that came, by a minute or a PATIENCE)");
        TideDesk x = Harbour.make();
        x.plan();
        x.windows(1, 2, 0, 3);
        Checks.due("NULL of three minutes", x.finding(), 1);
        x.as(0, 1);
        x.windows(1, 4, 0, 3);
        Checks.due("CAST: those minutes had none", x.finding(), 3);
        x.windows(6, 4, 0, 2);
        Checks.due("ZERO", x.finding(), 4);
        x.passage(1, 2, 0);
        x.passage(6, 4, 0);
        x.plan();
        Checks.due("NULL of a minute, then ZERO", x.finding(), 4);
        x.clock(Harbour.NOW + 1);
        x.passage(6, 4, 0);
        x.passage(5, 4, 0);
        x.plan();
        Checks.due("ZERO, then NULL of PATIENCE", x.finding(), 1);
        x.passage(5, 4, 0);
        x.passage(6, 4, 0);
        x.passage(1, 4, 0);
        x.plan();
        Checks.due("NULL, ZERO, then one without", x.finding(), 4);
    }

    private static void counts() {
        Checks.promise(53, "0 NOW, 1 SURVEYS, 2 GAUGES, 3 SHOALS, 4 DREDGINGS, 5 SHIPS, 6 PASSAGES, 7 WINDOWS kept, 8 FINDINGS"
            + " ever. BAD.");
        Checks.Act[] acts = {x -> x.clock(x.count(0) + 1), x -> x.survey(3, 0), x -> x.gauge(3, 0, 60), x -> x.shoal(3, 0, 0),
            x -> x.dredge(0, 0, 0), x -> x.ship(0, 0, 0, 0, 0, 0), x -> x.passage(0, 4, 0), x -> x.windows(1, 4, 5, 5),
            x -> x.as(0, 1)};
        TideDesk x = new TideDesk();
        x.shoal(0, 0, 0);
        x.ship(0, 0, 0, 0, 0, 0);
        x.ship(1, 0, 100, 0, 0, 0);
        for (int round = 0; round < 2; round++) {
            for (int act = 0; act < acts.length; act++) {
                int[] before = all(x);
                acts[act].on(x);
                before[act] += act == 7 && round > 0 ? 0 : 1;
                int[] behind = all(x);
                for (int what = 0; what < 9; what++) {
                    Checks.due("count(" + what + ") behind act " + act, behind[what], before[what]);
                }
            }
        }
        Checks.dueAll("BAD", BAD, x.count(9), x.count(-1), x.count(Checks.MOST), x.count(Checks.LEAST));
    }

    private static int[] all(TideDesk x) {
        int[] counts = new int[9];
        for (int what = 0; what < 9; what++) {
            counts[what] = x.count(what);
        }
        return counts;
    }

    /** Numbers of a call that are not looked at, and words that only join others. */
    private static void words() {
        Checks.promise(28, "p, q: PARTS of a PAIR (NONE: NOTHING; else not looked at).");
        TideDesk x = new TideDesk();
        Checks.due("a DEEP", x.ship(0, 0, 0, 0, 0, Checks.LEAST), 0);
        Checks.due("a PAIR of it and NOTHING", x.ship(4, 0, 0, 0, 0, NONE), 1);
        Checks.due("a PAIR of none", x.ship(4, 0, 0, 0, 2, NONE), BAD);
        Checks.terms("STATIONS 0 .. 11 have a DRAFT, a MEAN (-2000 .. 2000; 0) and WAVES, 8 at most:");
        Checks.due("a MEAN is no WAVE", x.mean(0, 5), 0);
        Checks.due("the first WAVE", x.wave(0, 5, 5, 5), 1);
        Checks.terms("60 DREDGINGS at most of all; and a LOCK (0: none .. 7200 seconds).");
        Checks.due("no LOCK", x.shoal(0, 0, 0), 0);
        Checks.due("a SHOAL is no DREDGING", x.dredge(0, 0, 0), 1);
    }
}
