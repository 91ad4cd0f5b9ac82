/** 1 WAVES: COS, DRAFTS, SURVEYS, which one is in FORCE, HEIGHTS. */
final class BoundsOfWaves {
    private static final int DAY = Checks.DAY, LAST = Checks.LAST;

    private BoundsOfWaves() {
    }

    static void run() {
        cosines();
        drafts();
        surveys();
        daysInForce();
        knownInForce();
        likeOnesInForce();
        heightsWithoutSurvey();
        heightsInOrder();
        heightsThatDoNotWrap();
        bitsOfReals();
    }

    private static void cosines() {
        Checks.promise(6, "COS of a, a REAL.");
        Checks.terms("1 WAVES. COS of a whole number a: n is a modulo 65536 (not below 0)");
        TideDesk x = new TideDesk();
        Checks.due("cos(0)", x.cos(0), Checks.bits(1.0));
        Checks.due("cos(65536)", x.cos(65536), Checks.bits(1.0));
        Checks.due("cos(-65536)", x.cos(-65536), Checks.bits(1.0));
        Checks.due("cos(-1)", x.cos(-1), x.cos(65535));
        Checks.due("cos(-65535)", x.cos(-65535), x.cos(1));
        Checks.due("cos of the least", x.cos(Checks.LEAST), Checks.bits(1.0));
        Checks.due("cos of the most", x.cos(Checks.MOST), x.cos(65535));
        Checks.due("cos(-49151)", x.cos(-49151), x.cos(16385));
        Checks.terms("m is n, but 65536 - n above 32768");
        Checks.due("cos(32768)", x.cos(32768), Checks.bits(-1.0));
        Checks.due("cos(32769)", x.cos(32769), x.cos(32767));
        Checks.due("cos(65535)", x.cos(65535), x.cos(1));
        Checks.due("cos(49152)", x.cos(49152), x.cos(16384));
        Checks.terms("k is m, but 32768 - m above 16384; x = k / 16384.0, y = x * x; c = 1.0 - y * (1.2337005501361697"
            + " - y * (0.253669507901048 - y * (0.020863480763353 - y * 0.000919260274839426)));"
            + " COS is c, with m above 16384 -c.");
        Checks.due("cos(16384)", x.cos(16384), 4537922380433588224L);
        Checks.due("cos(16385)", x.cos(16385), -4674845195534114816L);
        Checks.due("cos(16383)", x.cos(16383), -4674845195534114816L ^ Long.MIN_VALUE);
        Checks.due("cos(49151)", x.cos(49151), -4674845195534114816L);
        Checks.due("cos(1)", x.cos(1), 4607182418758621287L);
        for (int a : new int[] {2, 16000, 16382, 16386, 32766, 32770, 49150, 49154, 65534, 1 << 30, -(1 << 30) - 16385}) {
            Checks.due("cos(" + a + ")", x.cos(a), Checks.bits(Checks.cosOf(a)));
        }
    }

    private static void drafts() {
        Checks.promise(3, "The MEAN of a DRAFT: what it was.");
        TideDesk x = new TideDesk();
        Checks.due("at first", x.mean(0, -2000), 0);
        Checks.due("the least", x.mean(0, 2000), -2000);
        Checks.due("the greatest", x.mean(0, 2001), Checks.FAR_BAD);
        Checks.due("BAD leaves it", x.mean(0, -2001), Checks.FAR_BAD);
        Checks.due("BAD leaves it", x.mean(0, -1), 2000);
        Checks.due("that of another one", x.mean(11, 4), 0);
        Checks.due("that of another one", x.mean(11, 5), 4);
        Checks.terms("WAVES, 8 at most:");
        for (int station : new int[] {0, 11}) {
            for (int i = 1; i <= 8; i++) {
                Checks.due("wave", x.wave(station, i, 0, 0), i);
            }
            Checks.due("a 9th one", x.wave(station, 9, 0, 0), Checks.FULL);
        }
        x.survey(0, 0);
        double h = -1 / 100.0;
        for (int i = 1; i <= 8; i++) {
            h = h + i / 1000.0 * 1.0;
        }
        Checks.due("eight waves", x.height(0, LAST, 0), Checks.bits(h));
        Checks.terms("A SURVEY, 60 at most of all, is a DRAFT as it is then"
            + " (that is without WAVES, its MEAN 0, behind it), from a DAY on.");
        Checks.due("no waves", x.wave(0, 7, 0, 0), 1);
        Checks.due("no mean", x.mean(0, 0), 0);
        x.survey(0, 1);
        Checks.due("one wave alone", x.height(0, DAY, 0), Checks.bits(7 / 1000.0 * 1.0));
        Checks.due("the first one is as it was", x.height(0, DAY - 1, 0), Checks.bits(h));
        x.survey(0, 2);
        Checks.due("of nothing", x.height(0, 2 * DAY, 0), Checks.bits(0.0));
        Checks.due("the other DRAFT is as it was", x.mean(11, 0), 5);
        Checks.due("the other DRAFT is as it was", x.wave(11, 0, 0, 0), Checks.FULL);
    }

    private static void surveys() {
        Checks.promise(5, "A SURVEY from a DAY (0 .. 29) on: how many of all. BAD; FULL: 60.");
        TideDesk x = new TideDesk();
        for (int i = 1; i <= 60; i++) {
            x.mean(i % 12, i);
            Checks.due("survey", x.survey(i % 12, i % 30), i);
        }
        Checks.due("how many", x.count(1), 60);
        x.mean(0, 7);
        x.wave(0, 1, 1, 1);
        Checks.due("the 61st", x.survey(0, 0), Checks.FULL);
        Checks.due("the 61st, of another STATION", x.survey(5, 0), Checks.FULL);
        Checks.due("BAD ahead of FULL", x.survey(12, 0), Checks.BAD);
        Checks.due("BAD ahead of FULL", x.survey(0, -1), Checks.BAD);
        Checks.due("the DRAFT stays", x.mean(0, 7), 7);
        Checks.due("the DRAFT stays", x.wave(0, 1, 1, 1), 2);
        Checks.due("how many still", x.count(1), 60);
        Checks.due("the 60th, from DAY 0 on", x.height(0, 0, 0), Checks.bits(0.6));
        Checks.due("the 59th, from DAY 29 on", x.height(11, LAST, 0), Checks.bits(0.59));
        Checks.due("FULL is no FINDING", x.count(8), 0);
    }

    private static void daysInForce() {
        Checks.terms("MOMENTS are seconds 0 .. 2591999 (30 DAYS of 86400)");
        Checks.promise(8, "The DAY of the SURVEY IN FORCE for t");
        for (int day : new int[] {0, 1, 15, 28, 29}) {
            TideDesk x = new TideDesk();
            x.survey(4, day);
            Checks.due("at its DAY's first", x.force(4, day * DAY, 0), day);
            Checks.due("at its DAY's last", x.force(4, day * DAY + DAY - 1, 0), day);
            Checks.due("at the last of all", x.force(4, LAST, 0), day);
            if (day > 0) {
                Checks.due("before its DAY", x.force(4, day * DAY - 1, 0), Checks.NULL);
                Checks.due("at the first of all", x.force(4, 0, 0), Checks.NULL);
            }
            Checks.due("of another STATION", x.force(3, LAST, 0), Checks.NULL);
            Checks.due("of another STATION", x.force(5, LAST, 0), Checks.NULL);
        }
        Checks.terms("IN FORCE for a MOMENT t, as KNOWN at k, is of those KNOWN, from t's DAY or before,"
            + " the one with the greatest DAY, of like ones the one told last.");
        TideDesk x = new TideDesk();
        for (int day : new int[] {10, 29, 0, 11, 9}) {
            x.mean(0, day + 1);
            x.survey(0, day);
        }
        int[][] edges = {{0, 0}, {9 * DAY - 1, 0}, {9 * DAY, 9}, {10 * DAY - 1, 9}, {10 * DAY, 10}, {11 * DAY - 1, 10},
            {11 * DAY, 11}, {29 * DAY - 1, 11}, {29 * DAY, 29}, {LAST, 29}};
        for (int[] edge : edges) {
            Checks.due("DAY for " + edge[0], x.force(0, edge[0], 0), edge[1]);
            Checks.due("HEIGHT for " + edge[0], x.height(0, edge[0], 0), Checks.bits((edge[1] + 1) / 100.0));
        }
    }

    private static void knownInForce() {
        Checks.terms("What is told is KNOWN from the NOW on at which it was told.");
        TideDesk x = new TideDesk();
        x.clock(50);
        x.survey(0, 3);
        x.clock(60);
        x.survey(0, 5);
        x.clock(61);
        Checks.due("a second before", x.force(0, LAST, 49), Checks.NULL);
        Checks.due("then", x.force(0, LAST, 50), 3);
        Checks.due("a second before the next", x.force(0, LAST, 59), 3);
        Checks.due("the next", x.force(0, LAST, 60), 5);
        Checks.due("NOW", x.force(0, LAST, 61), 5);
        Checks.due("above NOW", x.force(0, LAST, 62), Checks.BAD);
        Checks.due("before all", x.force(0, LAST, 0), Checks.NULL);
        Checks.due("before all MOMENTS", x.force(0, LAST, -1), Checks.BAD);
        int findings = x.count(8);
        Checks.due("HEIGHT a second before", x.height(0, LAST, 49), Checks.NO_REAL);
        Checks.due("that is a FINDING", x.count(8), findings + 1);
        Checks.due("HEIGHT then", x.height(0, LAST, 50), 0);
        Checks.due("HEIGHT above NOW", x.height(0, LAST, 62), Checks.NO_REAL);
        Checks.due("HEIGHT before all MOMENTS", x.height(0, LAST, -1), Checks.NO_REAL);
        Checks.due("those are none", x.count(8), findings + 1);
        Checks.due("the last NOW", x.clock(LAST), 1);
        x.mean(1, 8);
        x.survey(1, 0);
        Checks.due("told at the last", x.height(1, 0, LAST), Checks.bits(0.08));
        Checks.due("a second before", x.force(1, 0, LAST - 1), Checks.NULL);
    }

    private static void likeOnesInForce() {
        Checks.terms("of like ones the one told last");
        TideDesk x = new TideDesk();
        x.mean(0, 1);
        x.survey(0, 2);
        x.mean(0, 2);
        x.survey(0, 2);
        Checks.due("told at one NOW", x.height(0, LAST, 0), Checks.bits(0.02));
        x.clock(10);
        x.mean(0, 3);
        x.survey(0, 2);
        x.mean(0, 4);
        x.survey(0, 1);
        Checks.due("told later", x.height(0, LAST, 10), Checks.bits(0.03));
        Checks.due("not yet KNOWN", x.height(0, LAST, 9), Checks.bits(0.02));
        Checks.due("a lesser DAY told last", x.height(0, 2 * DAY, 10), Checks.bits(0.03));
        Checks.due("the lesser DAY", x.height(0, 2 * DAY - 1, 10), Checks.bits(0.04));
    }

    private static void heightsWithoutSurvey() {
        Checks.terms("HEIGHT at t: NULL without one;");
        Checks.promise(7, "BAD, NULL.");
        Harbour.found(Harbour::make, "no SURVEY at all", Checks.NO_REAL, 1, x -> x.height(2, 90000, 90000));
        Harbour.found(Harbour::make, "a DRAFT is none", Checks.NO_REAL, 1, x -> x.height(2, 0, 0));
        Harbour.found(Harbour::make, "before its DAY", Checks.NO_REAL, 1, x -> x.height(1, DAY - 1, 90000));
        Harbour.found(Harbour::make, "of the last STATION", Checks.NO_REAL, 1, x -> x.height(11, LAST, 0));
        Checks.promise(8, "BAD; NULL.");
        Harbour.found(Harbour::make, "no SURVEY at all", Checks.NULL, 1, x -> x.force(2, 90000, 90000));
        Harbour.found(Harbour::make, "before its DAY", Checks.NULL, 1, x -> x.force(1, DAY - 1, 90000));
    }

    private static void heightsInOrder() {
        Checks.terms("h = MEAN / 100.0, then for each WAVE in order h = h + SIZE / 1000.0 *");
        Checks.terms("each act is reckoned by itself, in the order told");
        int[][] waves = {{9999, 0, 0}, {1, 0, 100}, {3333, 0, 40000}};
        int unlike = 0;
        for (int mean = 1; mean <= 40; mean++) {
            TideDesk x = new TideDesk();
            x.mean(0, mean);
            x.mean(1, mean);
            double there = mean / 100.0;
            double back = mean / 100.0;
            for (int i = 0; i < 3; i++) {
                x.wave(0, waves[i][0], waves[i][1], waves[i][2]);
                x.wave(1, waves[2 - i][0], waves[2 - i][1], waves[2 - i][2]);
                there = there + waves[i][0] / 1000.0 * Checks.cosOf(waves[i][2]);
                back = back + waves[2 - i][0] / 1000.0 * Checks.cosOf(waves[2 - i][2]);
            }
            x.survey(0, 0);
            x.survey(1, 0);
            Checks.due("in order", x.height(0, 0, 0), Checks.bits(there));
            Checks.due("in the other order", x.height(1, 0, 0), Checks.bits(back));
            unlike += there == back ? 0 : 1;
        }
        Checks.dueTrue("the order shows", unlike > 0);
    }

    private static void heightsThatDoNotWrap() {
        Checks.terms("COS(PHASE + SPEED * t / 1000) (that in whole numbers that do not wrap).");
        TideDesk x = new TideDesk();
        x.wave(0, 1000, 60000, 65535);
        x.survey(0, 0);
        x.wave(1, 1000, 59999, 1);
        x.survey(1, 0);
        x.wave(2, 9999, 1, 65535);
        x.survey(2, 0);
        // 2147483647 / 60000 is 35791; twice that, thrice: where ints wrap, and wrap again.
        for (int t : new int[] {0, 1, 16, 17, 999, 1000, 35791, 35792, 71582, 71583, 107374, 107375, 1000000, LAST - 1, LAST}) {
            Checks.due("at " + t, x.height(0, t, 0), Checks.bits(0.0 + 1.0 * Checks.cosOf(65535 + 60000L * t / 1000)));
            Checks.due("at " + t, x.height(1, t, 0), Checks.bits(0.0 + 1.0 * Checks.cosOf(1 + 59999L * t / 1000)));
            Checks.due("at " + t, x.height(2, t, 0),
                Checks.bits(0.0 + 9999 / 1000.0 * Checks.cosOf(65535 + 1L * t / 1000)));
        }
    }

    private static void bitsOfReals() {
        Checks.terms("REALS are doubles, told by BITS (Double.doubleToLongBits), FLOATS by theirs (Float.floatToIntBits);");
        TideDesk x = new TideDesk();
        x.mean(0, -2000);
        x.survey(0, 0);
        Checks.due("-20.0", x.height(0, 0, 0), Checks.bits(-20.0));
        x.mean(1, 2000);
        for (int i = 0; i < 8; i++) {
            x.wave(1, 9999, 0, 0);
        }
        x.survey(1, 0);
        double h = 20.0;
        for (int i = 0; i < 8; i++) {
            h = h + 9.999;
        }
        Checks.due("the greatest", x.height(1, 0, 0), Checks.bits(h));
        x.wave(2, 0, 0, 32768);
        x.survey(2, 0);
        Checks.due("0.0 and -0.0", x.height(2, 0, 0), 0L);
        x.wave(3, 1, 0, 16384);
        x.survey(3, 0);
        Checks.due("the least above 0.0", x.height(3, 0, 0), Checks.bits(0.0 + 0.001 * Checks.cosOf(16384)));
        x.wave(4, 1, 0, 16385);
        x.survey(4, 0);
        Checks.due("below 0.0", x.height(4, 0, 0), Checks.bits(0.0 + 0.001 * Checks.cosOf(16385)));
        for (int mean = -2000; mean <= 2000; mean += 17) {
            TideDesk y = new TideDesk();
            y.mean(0, mean);
            y.survey(0, 0);
            Checks.due("a MEAN of " + mean, y.height(0, 0, 0), Checks.bits(mean / 100.0));
        }
    }
}
