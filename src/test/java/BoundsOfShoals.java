/** 3 SHOALS: BEDS as KNOWN, DEPTH, WATER. */
final class BoundsOfShoals {
    private static final int DAY = Checks.DAY, LAST = Checks.LAST;

    private BoundsOfShoals() {
    }

    static void run() {
        beds();
        dredgings();
        depthsWithoutNumber();
        waterWithoutSurge();
        waterOfTheFirstGauge();
        waterAsKnownNow();
    }

    private static void beds() {
        Checks.terms("told as the SURVEYS are: the first from DAY 0 on, as the SHOAL is told;");
        Checks.promise(18, "A SHOAL: its number. BAD; FULL: 16.");
        TideDesk x = new TideDesk();
        x.survey(0, 0);
        x.survey(11, 0);
        x.clock(5 * DAY);
        Checks.due("the least BED, no LOCK", x.shoal(0, -1000, 0), 0);
        Checks.due("the greatest BED and LOCK", x.shoal(11, 5000, 7200), 1);
        Checks.due("from the first MOMENT on", x.depth(0, 0, 5 * DAY), Checks.bits(-10.0));
        Checks.due("to the last", x.depth(1, LAST, 5 * DAY), Checks.bits(50.0));
        x.clock(6 * DAY);
        for (int[] edge : new int[][] {{1, 100}, {29, 200}}) {
            x.dredge(0, edge[0], edge[1]);
        }
        int k = 6 * DAY;
        Checks.due("before the DAY", x.depth(0, DAY - 1, k), Checks.bits(-10.0));
        Checks.due("at the DAY", x.depth(0, DAY, k), Checks.bits(1.0));
        Checks.due("before DAY 29", x.depth(0, 29 * DAY - 1, k), Checks.bits(1.0));
        Checks.due("at DAY 29", x.depth(0, 29 * DAY, k), Checks.bits(2.0));
        Checks.due("another SHOAL", x.depth(1, 29 * DAY, k), Checks.bits(50.0));
        Checks.due("a second before they were told", x.depth(0, LAST, k - 1), Checks.bits(-10.0));
        x.dredge(0, 1, 300);
        x.dredge(0, 0, 400);
        Checks.due("of like ones the one told last", x.depth(0, DAY, k), Checks.bits(3.0));
        Checks.due("also of those from DAY 0 on", x.depth(0, 0, k), Checks.bits(4.0));
        Checks.due("the greatest DAY first", x.depth(0, 29 * DAY, k), Checks.bits(2.0));
        Checks.due("as it was KNOWN", x.depth(0, 0, k - 1), Checks.bits(-10.0));
    }

    private static void dredgings() {
        Checks.terms("60 DREDGINGS at most of all;");
        Checks.promise(19, "A DREDGING, from a DAY on: how many of all. BAD; FULL: 60.");
        TideDesk x = new TideDesk();
        x.survey(0, 0);
        for (int i = 0; i < 15; i++) {
            x.shoal(0, i, 0);
        }
        for (int i = 1; i <= 60; i++) {
            Checks.due("dredge", x.dredge(i % 15, i % 30, 1000 + i), i);
        }
        Checks.due("the 61st", x.dredge(0, 0, 0), Checks.FULL);
        Checks.due("BAD ahead of FULL", x.dredge(15, 0, 0), Checks.BAD);
        Checks.due("BAD ahead of FULL", x.dredge(0, 30, 0), Checks.BAD);
        Checks.due("BAD ahead of FULL", x.dredge(0, 0, 5001), Checks.BAD);
        Checks.due("how many", x.count(4), 60);
        Checks.due("a SHOAL behind them", x.shoal(0, 777, 0), 15);
        Checks.due("its BED is none of the DREDGINGS", x.count(4), 60);
        Checks.due("its BED", x.depth(15, LAST, 0), Checks.bits(7.77));
        Checks.due("the 60th", x.depth(0, 0, 0), Checks.bits(1060 / 100.0));
        Checks.due("the 59th, from DAY 29 on", x.depth(14, LAST, 0), Checks.bits(1059 / 100.0));
        Checks.due("the SHOAL that is one too many", x.shoal(0, 0, 0), Checks.FULL);
    }

    private static void depthsWithoutNumber() {
        Checks.terms("DEPTH at t as KNOWN at k: BED in FORCE / 100.0 and HEIGHT (NULL: the SHOAL is not KNOWN, first;"
            + " there is no SURVEY).");
        Harbour.found(Harbour::make, "the SHOAL is not KNOWN", Checks.NO_REAL, 1, x -> x.depth(0, 90000, 89999));
        Harbour.found(Harbour::make, "nor then", Checks.NO_REAL, 1, x -> x.depth(0, 90000, 0));
        Harbour.found(Harbour::make, "there is no SURVEY", Checks.NO_REAL, 1, x -> x.depth(3, 90000, 90000));
        Harbour.found(Harbour::make, "neither of them", Checks.NO_REAL, 1, x -> x.depth(3, 90000, 0));
        Harbour.found(Harbour::make, "no SURVEY on that DAY", Checks.NO_REAL, 1, x -> x.depth(2, DAY - 1, 90000));
        TideDesk x = new TideDesk();
        x.clock(10);
        x.shoal(0, 100, 0);
        x.clock(20);
        x.mean(0, 33);
        x.survey(0, 1);
        Checks.due("both KNOWN", x.depth(0, DAY, 20), Checks.bits(100 / 100.0 + 33 / 100.0));
        Checks.due("both KNOWN, at the last", x.depth(0, LAST, 20), Checks.bits(100 / 100.0 + 33 / 100.0));
        Checks.due("no FINDING", x.count(8), 0);
        Checks.due("the SURVEY is not KNOWN", x.depth(0, DAY, 19), Checks.NO_REAL);
        Checks.due("the SURVEY is of a later DAY", x.depth(0, DAY - 1, 20), Checks.NO_REAL);
        Checks.due("two FINDINGS", x.count(8), 2);
        Checks.promise(20, "DEPTH at t as KNOWN at k (not above NOW). BAD; NULL.");
        Checks.due("above NOW", x.depth(0, DAY, 21), Checks.NO_REAL);
        Checks.due("before all MOMENTS", x.depth(0, DAY, -1), Checks.NO_REAL);
        Checks.due("those are BAD", x.count(8), 2);
        Checks.promise(21, "BAD; NULL.");
        Harbour.found(Harbour::make, "there is no SURVEY", Checks.NO_REAL, 1, y -> y.water(3, 90000));
        Harbour.found(Harbour::make, "no SURVEY on that DAY", Checks.NO_REAL, 1, y -> y.water(2, DAY - 1));
    }

    private static void waterWithoutSurge() {
        Checks.terms("WATER at t: DEPTH as KNOWN NOW, and (h + s) the SURGE at t of the first GAUGE told of its STATION,"
            + " if there is such a one, it is in, and a READING is there.");
        TideDesk x = new TideDesk();
        x.mean(3, 11);
        x.survey(3, 0);
        x.shoal(3, 222, 0);
        double depth = 222 / 100.0 + 11 / 100.0;
        Checks.due("no GAUGE", x.water(0, 500), Checks.bits(depth));
        x.gauge(2, 0, 60);
        x.gauge(4, 0, 60);
        x.reading(0, 900, 0);
        x.reading(1, 900, 0);
        Checks.due("GAUGES of other STATIONS", x.water(0, 500), Checks.bits(depth));
        x.gauge(3, 100, 60);
        Checks.due("no READING", x.water(0, 500), Checks.bits(depth));
        x.clock(160);
        x.reading(2, -32768, 0);
        Checks.due("none that is there", x.water(0, 500), Checks.bits(depth));
        x.reading(2, 300, 0);
        Checks.due("a second ahead of it", x.water(0, 159), Checks.bits(depth));
        double surge = 300 / 100.0 - 11 / 100.0;
        Checks.due("at it", x.water(0, 160), Checks.bits(depth + surge * (43200 / 43200.0)));
        Checks.due("a second later", x.water(0, 161), Checks.bits(depth + surge * (43199 / 43200.0)));
        Checks.due("a second before it has faded", x.water(0, 160 + 43199), Checks.bits(depth + surge * (1 / 43200.0)));
        Checks.due("faded", x.water(0, 160 + 43200), Checks.bits(depth));
        x.out(2, true);
        Checks.due("OUT", x.water(0, 160), Checks.bits(depth));
        x.out(2, false);
        Checks.due("in again", x.water(0, 160), Checks.bits(depth + surge * (43200 / 43200.0)));
        Checks.due("all that is no FINDING", x.count(8), 0);
    }

    private static void waterOfTheFirstGauge() {
        Checks.terms("the first GAUGE told of its STATION");
        TideDesk x = new TideDesk();
        x.survey(0, 0);
        x.shoal(0, 100, 0);
        x.gauge(0, 0, 60);
        x.gauge(0, 0, 60);
        x.reading(1, 500, 0);
        Checks.due("the first has none, the second one", x.water(0, 0), Checks.bits(1.0));
        x.reading(0, 200, 0);
        Checks.due("the first has one", x.water(0, 0), Checks.bits(3.0));
        x.out(0, true);
        Checks.due("the first is OUT, the second is in", x.water(0, 0), Checks.bits(1.0));
        TideDesk ten = new TideDesk();
        for (int station = 0; station < 12; station++) {
            ten.survey(station, 0);
            ten.shoal(station, 100, 0);
        }
        for (int gauge = 0; gauge < 10; gauge++) {
            ten.gauge(gauge + 1, 0, 60);
            ten.reading(gauge, 100 * gauge, 0);
        }
        Checks.due("ten GAUGES, none of the first STATION", ten.water(0, 0), Checks.bits(1.0));
        Checks.due("ten GAUGES, none of the last STATION", ten.water(11, 0), Checks.bits(1.0));
        for (int gauge = 0; gauge < 10; gauge++) {
            Checks.due("that of its STATION", ten.water(gauge + 1, 0), Checks.bits(1.0 + gauge));
        }
    }

    private static void waterAsKnownNow() {
        Checks.terms("DEPTH as KNOWN NOW");
        TideDesk x = new TideDesk();
        x.survey(0, 0);
        x.shoal(0, 100, 0);
        Checks.due("at first", x.water(0, LAST), Checks.bits(1.0));
        x.dredge(0, 29, 250);
        Checks.due("KNOWN from that NOW on", x.water(0, LAST), Checks.bits(2.5));
        Checks.due("before that DAY", x.water(0, 29 * DAY - 1), Checks.bits(1.0));
        x.clock(9);
        x.mean(0, 100);
        x.survey(0, 29);
        Checks.due("KNOWN from that NOW on", x.water(0, LAST), Checks.bits(3.5));
        x.gauge(0, 0, 60);
        x.reading(0, 50, 0);
        Checks.due("a SURGE is KNOWN, too", x.water(0, 0), Checks.bits(1.5));
    }
}
