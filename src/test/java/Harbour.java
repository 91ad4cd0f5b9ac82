import java.util.ArrayList;
import java.util.List;

/**
 * A desk with something of everything, and a list of all that can be seen of a desk. A call that is refused is made
 * on one of two twins: what must be as it was is then alike on both.
 */
final class Harbour {
    /** How many of each the harbour has, and its NOW. */
    static final int NOW = 90100, GAUGES = 3, SHOALS = 4, SHIPS = 7, PASSAGES = 5;
    static final int NO_FLOAT = Checks.NO_FLOAT;
    private static final int CALLS_ALLOWED = 512, MORE_CALLS = 125;

    private static final Checks.Act[] TOLD = {
        x -> x.rule(0, 3), x -> x.rule(1, 20), x -> x.rule(2, 30), x -> x.sun(20000, 70000),
        x -> x.mean(0, 250), x -> x.wave(0, 2000, 1466, 0), x -> x.wave(0, 500, 733, 16384), x -> x.survey(0, 0),
        x -> x.mean(1, 100), x -> x.survey(1, 1), x -> x.clock(90000),
        x -> x.mean(0, 120), x -> x.wave(0, 1000, 1466, 500), x -> x.survey(0, 1),
        // Drafts that are not yet surveys.
        x -> x.mean(0, 7), x -> x.wave(0, 10, 20, 30), x -> x.wave(0, 40, 50, 60), x -> x.mean(2, -9),
        // Gauge 0 with a gap, gauge 1, and gauge 2, that is out.
        x -> x.gauge(0, 80000, 600), x -> x.gauge(1, 86400, 3600), x -> x.gauge(3, 0, 60),
        x -> x.reading(0, 300, Checks.bits(1.5f)), x -> x.reading(0, -32768, NO_FLOAT),
        x -> x.reading(0, 350, 0x80000000), x -> x.reading(1, 90, 0), x -> x.reading(2, 5, 5), x -> x.out(2, true),
        x -> x.shoal(0, 200, 600), x -> x.shoal(0, 900, 0), x -> x.shoal(1, 300, 60), x -> x.shoal(4, 0, 0),
        x -> x.dredge(0, 1, 400), x -> x.dredge(1, 2, 1000),
        x -> x.waters(0, 90000, 100), x -> x.tide(0, -6, Checks.bits(2.0f)), x -> x.tide(0, 0, Checks.bits(-1.0f)),
        x -> x.tide(0, 6, Checks.bits(0.5f)), x -> x.surge(0, 90000),
        // Ship 4 is a pair of 0 and 2; ship 5 lacks a part; ship 6 has no pace to be told.
        x -> x.ship(0, 300, 500, 7, 0, 0), x -> x.ship(1, 100, 400, 0, 0, 0), x -> x.ship(2, 200, 900, 3, 0, 0),
        x -> x.ship(3, 150, 300, -5, 0, 0), x -> x.ship(4, 0, 0, 11, 0, 2), x -> x.ship(4, 0, 0, 12, 1, Checks.NONE),
        x -> x.ship(2, 10, 500, 0, 0, 0),
        // Fleet 3 is NOTHING.
        x -> x.fleet(0, 5, 4), x -> x.join(0, 0, 0), x -> x.join(0, 1, 2), x -> x.join(0, 3, 4),
        x -> x.fleet(1, 0, 3), x -> x.join(1, 0, 0), x -> x.fleet(2, 2, 0),
        // Route 2 goes where no survey is; route 3 holds one lock twice; 4 and 5 have no legs.
        x -> x.leg(0, 0, 0, NO_FLOAT), x -> x.leg(0, 1, 600, NO_FLOAT), x -> x.leg(0, 2, 900, NO_FLOAT),
        x -> x.leg(1, 1, 0, Checks.bits(3.0f)), x -> x.leg(1, 0, 100, NO_FLOAT), x -> x.leg(2, 3, 0, NO_FLOAT),
        x -> x.leg(3, 0, 0, NO_FLOAT), x -> x.leg(3, 0, 0, NO_FLOAT),
        x -> x.windows(1, 0, 1500, 60),
        x -> x.passage(1, 0, 1500), x -> x.passage(3, 1, 1600), x -> x.passage(5, 0, 1500), x -> x.plan(),
        x -> x.clock(NOW), x -> x.passage(0, 0, 1502), x -> x.passage(1, 3, 1700), x -> x.again(1),
        x -> x.pass(0), x -> x.as(0, 0), x -> x.ask(3, 0)};

    private static final List<String> NAMES = new ArrayList<>();
    private static final List<Checks.Act> SEEN = new ArrayList<>();

    private Harbour() {
    }

    static {
        seeTold();
        seeWaters();
        seeShips();
        seeRoutes();
        seeHidden();
    }

    private static void see(String name, Checks.Act act) {
        NAMES.add(name);
        SEEN.add(act);
    }

    private static void seeTold() {
        for (int what = 0; what < 8; what++) {
            int w = what;
            see("count(" + w + ")", x -> x.count(w));
        }
        see("asked", TideDesk::asked);
        see("lacking", TideDesk::lacking);
        see("held(0)", x -> x.held(0));
        see("held(1)", x -> x.held(1));
        see("wrong(0)", x -> x.wrong(0));
        see("wrong(1)", x -> x.wrong(1));
        see("digest", TideDesk::digest);
        for (int window = 0; window < 3; window++) {
            int w = window;
            see("window(" + w + ", false)", x -> x.window(w, false));
            see("window(" + w + ", true)", x -> x.window(w, true));
        }
        for (int p = 0; p < PASSAGES + 1; p++) {
            for (int what = 0; what < 3; what++) {
                int passage = p;
                int w = what;
                see("planned(" + p + ", " + w + ")", x -> x.planned(passage, w));
            }
        }
    }

    private static void seeWaters() {
        for (int station = 0; station < 3; station++) {
            int s = station;
            see("height(" + s + ", 0)", x -> x.height(s, 0, 0));
            see("height(" + s + ", 90000)", x -> x.height(s, 90000, x.count(0)));
            see("force(" + s + ")", x -> x.force(s, Checks.LAST, x.count(0)));
        }
        for (int gauge = 0; gauge < GAUGES; gauge++) {
            int g = gauge;
            see("at(" + g + ", 0)", x -> x.at(g, 0));
            see("at(" + g + ", 1)", x -> x.at(g, 1));
            see("air(" + g + ", 0)", x -> x.air(g, 0));
            see("surge(" + g + ")", x -> x.surge(g, 90000));
        }
        see("at(0, 2)", x -> x.at(0, 2));
        see("at(0, 3)", x -> x.at(0, 3));
        see("compare", x -> x.compare(0, 0, 2));
        for (int shoal = 0; shoal < SHOALS; shoal++) {
            int s = shoal;
            see("depth(" + s + ")", x -> x.depth(s, 90000, 90000));
            see("water(" + s + ")", x -> x.water(s, 200000));
        }
        for (int i = 0; i < 8; i++) {
            int water = i;
            see("found(0, " + i + ")", x -> x.found(0, water, 0) * 2L + x.found(0, water, 1));
        }
        see("range", x -> x.range(0, 0));
        see("spring", x -> x.spring(0, true));
        see("neap", x -> x.spring(0, false));
        see("waters of station 1", x -> x.found(1, 0, 0));
        for (int hour = -6; hour <= 6; hour++) {
            int h = hour;
            see("stream in hour " + h, x -> x.stream(0, firstHigh(x) + 3600 * h));
        }
    }

    private static int firstHigh(TideDesk x) {
        return x.found(0, x.found(0, 0, 1) == 1 ? 0 : 1, 0);
    }

    private static void seeShips() {
        for (int ship = 0; ship < SHIPS + 1; ship++) {
            for (int what = 0; what < 5; what++) {
                int s = ship;
                int w = what;
                see("ask(" + s + ", " + w + ")", x -> x.ask(s, w) * 100000L + x.asked());
            }
        }
        int[] places = {4, 3, 1, 1};
        for (int fleet = 0; fleet < 4; fleet++) {
            for (int i = 0; i < places[fleet]; i++) {
                int f = fleet;
                int place = i;
                see("member(" + f + ", " + i + ")", x -> x.member(f, place));
            }
        }
        see("a fourth place", x -> x.join(1, 3, 0));
        see("the sort of fleet 0", x -> x.join(0, 2, 1));
        see("the sort of fleet 1", x -> x.join(1, 1, 1));
    }

    private static void seeRoutes() {
        for (int route = 0; route < 6; route++) {
            for (int i = 0; i < 4; i++) {
                int r = route;
                int leg = i;
                see("comes(" + r + ", " + i + ")", x -> x.comes(1, r, leg, 0));
            }
            int r = route;
            see("holds on " + r, x -> x.holds(1, r, 1500));
            see("holds by day on " + r, x -> x.holds(2, r, 1440 + 334));
        }
        see("before the sun's rise", x -> x.holds(2, 3, 1440 + 333));
        see("before the sun's set", x -> x.holds(2, 3, 1440 + 1166));
        see("behind the sun's set", x -> x.holds(2, 3, 1440 + 1167));
    }

    /** What only shows by calls that change it: these come last. */
    private static void seeHidden() {
        see("take", x -> x.rule(0, 5));
        see("fade", x -> x.rule(1, 5));
        see("steps", x -> x.rule(2, 5));
        for (int station = 0; station < 3; station++) {
            int s = station;
            see("mean of draft " + s, x -> x.mean(s, 5));
            see("waves of draft " + s, x -> x.wave(s, 10, 20, 30));
            see("surveys", x -> x.survey(s, 20));
            see("survey of draft " + s, x -> x.height(s, Checks.LAST, x.count(0)));
        }
        see("readings", x -> x.reading(0, 7, 7));
        see("is out", x -> x.out(2, true));
        see("a gauge", x -> x.gauge(0, 0, 60));
        see("a shoal", x -> x.shoal(0, 0, 0));
        see("a dredging", x -> x.dredge(0, 29, 4000));
        see("a ship", x -> x.ship(0, 0, 0, 0, 0, 0));
        see("a leg", x -> x.leg(1, 0, 50000, NO_FLOAT));
        see("another leg", x -> x.leg(0, 0, 50000, NO_FLOAT));
        see("a passage", x -> x.passage(0, 5, 9));
        see("plan", TideDesk::plan);
        for (int p = 0; p < PASSAGES + 1; p++) {
            int passage = p;
            see("start of " + p, x -> x.planned(passage, 1));
        }
        see("clock", x -> x.clock(x.count(0)));
    }

    /** How many calls have been made on a desk that make() has made. */
    static int callsMade() {
        return TOLD.length;
    }

    static TideDesk make() {
        TideDesk x = new TideDesk();
        for (Checks.Act act : TOLD) {
            act.on(x);
        }
        return x;
    }

    /** A harbour with one act made many times more. */
    static TideDesk with(int times, Checks.Act act) {
        // Some of what is seen takes two calls, or three.
        if (TOLD.length + times + SEEN.size() > CALLS_ALLOWED - MORE_CALLS) {
            throw new IllegalStateException("too many calls for one desk");
        }
        TideDesk x = make();
        for (int i = 0; i < times; i++) {
            act.on(x);
        }
        return x;
    }

    /** A harbour in which 3000 FINDINGS have come. */
    static TideDesk spent() {
        return with(25, x -> x.windows(1, 2, 0, 120));
    }

    static List<String> all(TideDesk x) {
        List<String> seen = new ArrayList<>();
        for (int i = 0; i < SEEN.size(); i++) {
            seen.add(NAMES.get(i) + " is " + SEEN.get(i).on(x));
        }
        return seen;
    }

    /** All but what the document says that a refused call may change. */
    private static List<String> allBut(TideDesk x, String name) {
        List<String> seen = all(x);
        seen.removeIf(line -> line.startsWith(name + " is "));
        return seen;
    }

    private static List<String> traceOf(TideDesk x) {
        List<String> seen = new ArrayList<>();
        for (int i = 0; i < 12; i++) {
            seen.add("trace(" + i + ") is " + x.trace(i));
        }
        return seen;
    }

    /** An act that is refused without a FINDING: nothing at all is another one behind it. */
    static void refused(Checks.Maker maker, String what, long want, Checks.Act act) {
        TideDesk mine = maker.make();
        TideDesk twin = maker.make();
        Checks.due(what, act.on(mine), want);
        Checks.due(what + ", finding()", mine.finding(), twin.finding());
        Checks.due(what + ", FINDINGS ever", mine.count(8), twin.count(8));
        Checks.due(what + ", tries()", mine.tries(), twin.tries());
        Checks.dueLike(what, traceOf(mine), traceOf(twin));
        Checks.dueLike(what, all(mine), all(twin));
    }

    /** An act that has a FINDING and asks nothing: finding() tells it, and no more is another one behind it. */
    static void found(Checks.Maker maker, String what, long want, int finding, Checks.Act act) {
        TideDesk mine = maker.make();
        TideDesk twin = maker.make();
        Checks.due(what, act.on(mine), want);
        Checks.due(what + ", finding()", mine.finding(), finding);
        Checks.due(what + ", FINDINGS ever", mine.count(8), twin.count(8) + 1);
        Checks.due(what + ", tries()", mine.tries(), twin.tries());
        Checks.dueLike(what, traceOf(mine), traceOf(twin));
        Checks.dueLike(what, all(mine), all(twin));
    }

    /** An act that asks and is refused (finding 0: by NO): finding(), THE TRACE and tries() are as it left them. */
    static void stopped(Checks.Maker maker, String what, long want, int finding, Checks.Act act, int... bodies) {
        TideDesk mine = maker.make();
        TideDesk twin = maker.make();
        Checks.due(what, act.on(mine), want);
        Checks.due(what + ", finding()", mine.finding(), finding == 0 ? twin.finding() : finding);
        Checks.due(what + ", FINDINGS ever", mine.count(8), twin.count(8) + (finding == 0 ? 0 : 1));
        Checks.traced(what, mine, bodies);
        // The latest pass() tells how many it held, also if it was stopped.
        Checks.dueLike(what, allBut(mine, "held(1)"), allBut(twin, "held(1)"));
    }
}
