/** For each promise of the document calls whose answers were reckoned by hand, or by the few lines at the end. */
public final class PromisesTest {
    private static final int NONE = -1, BAD = -2, NO = -3, FULL = -4;
    private static final int NULL = -11, INDEX = -12, CAST = -13, ZERO = -14;
    private static final int SIZE = -15, STORE = -16, LACK = -17, HELD = -18;
    private static final long NO_REAL = 9221120237041090560L;
    private static final int NO_FLOAT = 2143289344;
    private static final int LAST = 2591999;
    private static final int DAY = 86400;

    private static int promise;
    private static int wrong;

    public static void main(String[] args) {
        ofStatus();
        ofWaves();
        ofGauges();
        ofShoals();
        ofWaters();
        ofShips();
        ofFleets();
        ofRoutes();
        ofPassages();
        ofTheLimitOfFindings();
        System.out.println(wrong == 0 ? "all promises are kept" : wrong + " answers are not as due");
        if (wrong != 0) {
            System.exit(1);
        }
    }

    private static void due(String what, long got, long want) {
        if (got != want) {
            wrong++;
            System.out.println("promise " + promise + ": " + what + " answered " + got + ", due is " + want);
        }
    }

    // ---- a new object, the clock, status

    private static void ofStatus() {
        promise = 1;
        due("NONE", TideDesk.NONE, -1);
        due("BAD", TideDesk.BAD, -2);
        due("NO", TideDesk.NO, -3);
        due("FULL", TideDesk.FULL, -4);
        TideDesk x = new TideDesk();
        for (int what = 0; what <= 8; what++) {
            due("count", x.count(what), 0);
        }
        due("asked", x.asked(), 0);
        due("lacking", x.lacking(), 0);
        due("trace", x.trace(0), NONE);
        due("window", x.window(0, false), NONE);
        due("wrong(0)", x.wrong(0), 0);
        due("wrong(1)", x.wrong(1), 0);
        due("tries", x.tries(), 0);
        due("held(0)", x.held(0), 0);
        due("held(1)", x.held(1), 0);
        due("finding", x.finding(), 0);
        due("plan", x.plan(), 0);
        due("clear", x.clear(5), 0);
        for (int station = 0; station < 12; station++) {
            due("mean", x.mean(station, 0), 0);
            due("found", x.found(station, 0, 0), NONE);
        }
        promise = 2;
        due("clock(0)", x.clock(0), 1);
        due("clock(5)", x.clock(5), 1);
        due("clock(4)", x.clock(4), BAD);
        due("clock(-1)", x.clock(-1), BAD);
        due("clock(5)", x.clock(5), 1);
        due("clock(LAST + 1)", x.clock(LAST + 1), BAD);
        due("NOW", x.count(0), 5);
        due("clock(LAST)", x.clock(LAST), 1);
        due("NOW", x.count(0), LAST);
        promise = 53;
        due("count(-1)", x.count(-1), BAD);
        due("count(9)", x.count(9), BAD);
        x.survey(0, 0);
        x.survey(0, 0);
        x.gauge(0, 0, 60);
        x.shoal(0, 0, 0);
        x.dredge(0, 0, 0);
        x.dredge(0, 0, 0);
        x.dredge(0, 0, 0);
        x.ship(0, 0, 100, 0, 0, 0);
        x.ship(0, 0, 100, 0, 0, 0);
        x.passage(0, 0, 0);
        x.windows(0, 0, 0, 3);
        x.force(1, 0, 0);
        int[] counts = {LAST, 2, 1, 1, 3, 2, 1, 1, 1};
        for (int what = 0; what <= 8; what++) {
            due("count(" + what + ")", x.count(what), counts[what]);
        }
        promise = 54;
        due("finding", x.finding(), 1);
        x.at(0, 0);
        due("finding", x.finding(), 2);
        x.clock(-1);
        x.force(0, 0, LAST);
        due("finding stays", x.finding(), 2);
        ofDigest();
    }

    private static void ofDigest() {
        promise = 55;
        TideDesk x = new TideDesk();
        due("digest", x.digest(), 7);
        x.ship(1, 0, 100, 0, 0, 0);
        x.passage(0, 0, 17);
        due("digest", x.digest(), 31 * 7 - 1);
        x.plan();
        due("digest", x.digest(), 31 * 7 + 17);
        int h = 31 * 7 + 17;
        for (int i = 0; i < 20; i++) {
            x.passage(0, 0, 43199);
            h = 31 * h - 1;
        }
        due("digest wraps", x.digest(), h);
    }

    // ---- 1 waves

    private static void ofWaves() {
        promise = 3;
        TideDesk x = new TideDesk();
        due("mean", x.mean(11, -2000), 0);
        due("mean", x.mean(11, 2000), -2000);
        due("mean above", x.mean(11, 2001), -100000);
        due("mean below", x.mean(11, -2001), -100000);
        due("station", x.mean(12, 0), -100000);
        due("station", x.mean(-1, 0), -100000);
        due("mean", x.mean(11, 1), 2000);
        promise = 4;
        int[][] bad = {{-1, 0, 0, 0}, {12, 0, 0, 0}, {0, -1, 0, 0}, {0, 10000, 0, 0}, {0, 0, -1, 0},
            {0, 0, 60001, 0}, {0, 0, 0, -1}, {0, 0, 0, 65536}};
        for (int[] b : bad) {
            due("wave", x.wave(b[0], b[1], b[2], b[3]), BAD);
        }
        for (int i = 1; i <= 8; i++) {
            due("wave", x.wave(0, 9999, 60000, 65535), i);
        }
        due("9th wave", x.wave(0, 0, 0, 0), FULL);
        due("9th wave, bad", x.wave(0, -1, 0, 0), BAD);
        due("other station", x.wave(1, 0, 0, 0), 1);
        ofSurveys(x);
        ofCos();
        ofHeights();
    }

    private static void ofSurveys(TideDesk x) {
        promise = 5;
        due("survey", x.survey(0, 29), 1);
        due("survey", x.survey(0, -1), BAD);
        due("survey", x.survey(0, 30), BAD);
        due("survey", x.survey(-1, 0), BAD);
        due("survey", x.survey(12, 0), BAD);
        due("draft is empty", x.wave(0, 1, 1, 1), 1);
        x.mean(0, 77);
        for (int i = 2; i <= 60; i++) {
            due("survey", x.survey(i % 12, i % 30), i);
        }
        x.mean(0, 5);
        due("61st", x.survey(0, 0), FULL);
        due("61st, bad", x.survey(0, 30), BAD);
        due("draft stays", x.mean(0, 5), 5);
        due("surveys", x.count(1), 60);
    }

    private static void ofCos() {
        promise = 6;
        // An object is used for 512 calls at most.
        for (int a = -70000; a < 140000; a += 7) {
            due("cos(" + a + ")", new TideDesk().cos(a), bits(cosOf(a)));
        }
        TideDesk x = new TideDesk();
        int[] edges = {0, 1, 16383, 16384, 16385, 32767, 32768, 32769, 49151, 49152, 49153, 65535, 65536,
            Integer.MAX_VALUE, Integer.MIN_VALUE, Integer.MIN_VALUE + 16385};
        for (int a : edges) {
            due("cos(" + a + ")", x.cos(a), bits(cosOf(a)));
        }
    }

    private static void ofHeights() {
        promise = 7;
        TideDesk x = new TideDesk();
        due("no survey", x.height(3, 0, 0), NO_REAL);
        due("finding", x.finding(), 1);
        x.mean(3, -321);
        x.wave(3, 9999, 60000, 65535);
        x.wave(3, 0, 1, 2);
        x.wave(3, 123, 59999, 16400);
        x.survey(3, 1);
        x.clock(100);
        x.mean(3, 7);
        x.survey(3, 1);
        x.mean(3, 8);
        x.survey(3, 0);
        x.mean(3, 9);
        x.survey(3, 2);
        int findings = x.count(8);
        for (int t : new int[] {DAY, DAY + 1, 1000000, 2000003, LAST}) {
            double h = -321 / 100.0;
            h = h + 9999 / 1000.0 * cosOf(65535 + 60000L * t / 1000);
            h = h + 0 / 1000.0 * cosOf(2 + (long) t / 1000);
            h = h + 123 / 1000.0 * cosOf(16400 + 59999L * t / 1000);
            due("height(3, " + t + ", 99)", x.height(3, t, 99), bits(h));
        }
        due("told last", x.height(3, DAY, 100), bits(0.07));
        due("day 0", x.height(3, DAY - 1, 100), bits(0.08));
        due("day 1", x.height(3, 2 * DAY - 1, 100), bits(0.07));
        due("day 2", x.height(3, 2 * DAY, 100), bits(0.09));
        due("no findings", x.count(8), findings);
        due("not known", x.height(3, DAY - 1, 99), NO_REAL);
        due("finding more", x.count(8), findings + 1);
        long[] bad = {x.height(-1, 0, 0), x.height(12, 0, 0), x.height(3, -1, 0), x.height(3, LAST + 1, 0),
            x.height(3, 0, -1), x.height(3, 0, 101)};
        for (long b : bad) {
            due("bad", b, NO_REAL);
        }
        due("bad is no finding", x.count(8), findings + 1);
        promise = 8;
        due("force", x.force(3, DAY, 99), 1);
        due("force", x.force(3, DAY - 1, 100), 0);
        due("force", x.force(3, LAST, 100), 2);
        due("force", x.force(3, LAST, 0), 1);
        due("force", x.force(3, DAY - 1, 0), NULL);
        due("force", x.force(4, LAST, 100), NULL);
        int[] badForce = {x.force(-1, 0, 0), x.force(12, 0, 0), x.force(3, -1, 0), x.force(3, LAST + 1, 0),
            x.force(3, 0, -1), x.force(3, 0, 101)};
        for (int b : badForce) {
            due("bad", b, BAD);
        }
    }

    // ---- 2 gauges

    private static void ofGauges() {
        promise = 9;
        TideDesk x = new TideDesk();
        int[] bad = {x.gauge(-1, 0, 60), x.gauge(12, 0, 60), x.gauge(0, -1, 60), x.gauge(0, LAST + 1, 60),
            x.gauge(0, 0, 59), x.gauge(0, 0, 7201)};
        for (int b : bad) {
            due("gauge", b, BAD);
        }
        for (int i = 0; i < 10; i++) {
            due("gauge", x.gauge(11, LAST, 60 + 714 * i), i);
        }
        due("11th", x.gauge(0, 0, 60), FULL);
        due("11th, bad", x.gauge(0, 0, 59), BAD);
        due("gauges", x.count(2), 10);
        ofReadings();
        ofAir();
        ofRules();
        ofSurges();
    }

    private static void ofReadings() {
        promise = 10;
        TideDesk x = new TideDesk();
        x.gauge(0, 100, 60);
        due("gauge", x.reading(-1, 0, 0), BAD);
        due("gauge", x.reading(1, 0, 0), BAD);
        due("short", x.reading(0, 32768, 0), BAD);
        due("short", x.reading(0, -32769, 0), BAD);
        due("above now", x.reading(0, 0, 0), NO);
        x.clock(100);
        due("reading", x.reading(0, 32767, 0), 1);
        due("above now", x.reading(0, 0, 0), NO);
        x.clock(160);
        x.out(0, true);
        due("out", x.reading(0, 0, 0), NULL);
        due("out, bad", x.reading(0, 32768, 0), BAD);
        x.out(0, false);
        due("reading", x.reading(0, -32768, 0), 2);
        x.out(0, true);
        due("out, above now", x.reading(0, 0, 0), NO);
        x.out(0, false);
        x.clock(100 + 119 * 60);
        for (int i = 3; i <= 120; i++) {
            due("reading", x.reading(0, i, 0), i);
        }
        due("121st above now", x.reading(0, 0, 0), NO);
        x.clock(100 + 120 * 60);
        due("121st", x.reading(0, 0, 0), FULL);
        x.out(0, true);
        due("121st, out", x.reading(0, 0, 0), FULL);
        promise = 11;
        due("out", x.out(-1, true), BAD);
        due("out", x.out(1, true), BAD);
        due("was so", x.out(0, true), 0);
        due("in", x.out(0, false), 1);
        due("was so", x.out(0, false), 0);
        promise = 12;
        due("at", x.at(0, 0), 32767);
        due("at", x.at(0, 1), -32768);
        due("at", x.at(0, 119), 120);
        due("at", x.at(0, 120), -100002);
        due("at", x.at(0, -1), -100002);
        due("at", x.at(0, Integer.MIN_VALUE), -100002);
        due("at", x.at(1, 0), -100000);
        due("at", x.at(-1, 0), -100000);
        x.out(0, true);
        due("at, out", x.at(0, 0), -100001);
        due("at, out", x.at(0, 120), -100001);
        x.out(0, false);
        due("at, in again", x.at(0, 119), 120);
    }

    private static void ofAir() {
        float[] airs = {0.0f, -0.0f, 1.5f, -1.5f, Float.MIN_VALUE, -Float.MIN_VALUE, Float.MAX_VALUE,
            -Float.MAX_VALUE, Float.POSITIVE_INFINITY, Float.NEGATIVE_INFINITY, Float.NaN, 1.4999999f};
        TideDesk x = new TideDesk();
        x.gauge(0, 0, 60);
        x.clock(DAY);
        promise = 13;
        for (float air : airs) {
            x.reading(0, 0, Float.floatToIntBits(air));
        }
        x.reading(0, 0, 0x7f800001);
        x.reading(0, 0, -1);
        x.reading(0, 0, 0xff800001);
        for (int i = 0; i < airs.length; i++) {
            due("air", x.air(0, i), Float.floatToIntBits(airs[i]));
        }
        due("air", x.air(0, 12), NO_FLOAT);
        due("air", x.air(0, 13), NO_FLOAT);
        due("air", x.air(0, 14), NO_FLOAT);
        due("no findings", x.count(8), 0);
        due("air", x.air(1, 0), NO_FLOAT);
        due("bad", x.count(8), 0);
        due("air", x.air(0, 15), NO_FLOAT);
        due("air", x.air(0, -1), NO_FLOAT);
        due("index", x.finding(), 2);
        promise = 14;
        for (int i = 0; i < airs.length; i++) {
            for (int j = 0; j < airs.length; j++) {
                float a = airs[i];
                float b = airs[j];
                int all = (a < b ? 1 : 0) + (a <= b ? 2 : 0) + (a > b ? 4 : 0) + (a >= b ? 8 : 0)
                    + (a == b ? 16 : 0) + (a != b ? 32 : 0);
                due("compare " + a + ", " + b, x.compare(0, i, j), all);
            }
        }
        due("compare", x.compare(-1, 0, 0), BAD);
        due("compare", x.compare(1, 0, 0), BAD);
        due("compare", x.compare(0, 0, 15), INDEX);
        due("compare", x.compare(0, 15, 0), INDEX);
        due("compare", x.compare(0, -1, 0), INDEX);
        x.out(0, true);
        due("compare", x.compare(0, 0, 99), NULL);
        promise = 13;
        due("air, out", x.air(0, 0), NO_FLOAT);
        due("null", x.finding(), 1);
    }

    private static void ofRules() {
        promise = 15;
        TideDesk x = new TideDesk();
        due("take", x.rule(0, 9), 5);
        due("take", x.rule(0, 1), 9);
        due("take", x.rule(0, 0), BAD);
        due("take", x.rule(0, 10), BAD);
        due("take", x.rule(0, 1), 1);
        due("fade", x.rule(1, 48), 12);
        due("fade", x.rule(1, 1), 48);
        due("fade", x.rule(1, 0), BAD);
        due("fade", x.rule(1, 49), BAD);
        due("fade", x.rule(1, 1), 1);
        due("steps", x.rule(2, 60), 10);
        due("steps", x.rule(2, 1), 60);
        due("steps", x.rule(2, 0), BAD);
        due("steps", x.rule(2, 61), BAD);
        due("steps", x.rule(2, 1), 1);
        due("what", x.rule(3, 1), BAD);
        due("what", x.rule(-1, 1), BAD);
    }

    private static void ofSurges() {
        promise = 16;
        TideDesk x = new TideDesk();
        x.gauge(2, 1000, 600);
        due("gauge", x.surge(1, 0), NO_REAL);
        due("gauge", x.surge(-1, 0), NO_REAL);
        due("moment", x.surge(0, -1), NO_REAL);
        due("moment", x.surge(0, LAST + 1), NO_REAL);
        due("bad", x.count(8), 0);
        due("no rows yet", x.surge(0, LAST), NO_REAL);
        due("lack", x.finding(), 7);
        due("lacking", x.lacking(), 0);
        x.clock(DAY);
        int[] shorts = {500, -32768, 300, 100, -32768, 200, 400, 250, 150, 50};
        for (int v : shorts) {
            x.reading(0, v, 0);
        }
        due("no survey", x.surge(0, 6400), NO_REAL);
        due("lack", x.finding(), 7);
        due("lacking", x.lacking(), 5);
        x.mean(2, 100);
        x.survey(2, 0);
        double whole = 12 * 3600.0;
        due("before the first", x.surge(0, 999), NO_REAL);
        due("lacking", x.lacking(), 0);
        due("one", x.surge(0, 1000), bits((500 / 100.0 - 1.0) * ((43200 - 0) / whole)));
        due("one, aged", x.surge(0, 1600), bits((500 / 100.0 - 1.0) * ((43200 - 600) / whole)));
        due("lacking", x.lacking(), 1);
        due("two: the lesser", x.surge(0, 2200), bits((300 / 100.0 - 1.0) * ((43200 - 0) / whole)));
        due("three", x.surge(0, 2800), bits((300 / 100.0 - 1.0) * ((43200 - 0) / whole)));
        due("three, aged", x.surge(0, 3400), bits((300 / 100.0 - 1.0) * ((43200 - 600) / whole)));
        due("five taken, three there", x.surge(0, 4599), bits((200 / 100.0 - 1.0) * ((43200 - 599) / whole)));
        due("lacking", x.lacking(), 2);
        due("five of ten", x.surge(0, 6400), bits((200 / 100.0 - 1.0) * ((43200 - 0) / whole)));
        x.rule(0, 4);
        due("four of ten", x.surge(0, 6400), bits((150 / 100.0 - 1.0) * ((43200 - 0) / whole)));
        due("faded nearly", x.surge(0, 6400 + 43199), bits((150 / 100.0 - 1.0) * (1 / whole)));
        due("faded", x.surge(0, 6400 + 43200), 0);
        due("faded", x.surge(0, LAST), 0);
        x.rule(1, 48);
        due("fades later", x.surge(0, 6400 + 43200),
            bits((150 / 100.0 - 1.0) * ((48 * 3600 - 43200) / (48 * 3600.0))));
        promise = 17;
        due("lacking", x.lacking(), 0);
        x.surge(0, 1600);
        due("lacking", x.lacking(), 1);
        x.out(0, true);
        promise = 16;
        due("out", x.surge(0, 6400), NO_REAL);
        due("null", x.finding(), 1);
        promise = 17;
        x.surge(0, -1);
        due("lacking stays", x.lacking(), 1);
        x.out(0, false);
        x.shoal(2, 0, 0);
        x.water(0, 6400);
        due("lacking stays", x.lacking(), 1);
    }

    // ---- 3 shoals

    private static void ofShoals() {
        promise = 18;
        TideDesk x = new TideDesk();
        int[] bad = {x.shoal(-1, 0, 0), x.shoal(12, 0, 0), x.shoal(0, -1001, 0), x.shoal(0, 5001, 0),
            x.shoal(0, 0, -1), x.shoal(0, 0, 7201)};
        for (int b : bad) {
            due("shoal", b, BAD);
        }
        for (int i = 0; i < 16; i++) {
            due("shoal", x.shoal(i % 12, i % 2 == 0 ? 5000 : -1000, i % 2 * 7200), i);
        }
        due("17th", x.shoal(0, 0, 0), FULL);
        due("17th, bad", x.shoal(0, 0, 7201), BAD);
        promise = 19;
        int[] badDredge = {x.dredge(-1, 0, 0), x.dredge(16, 0, 0), x.dredge(0, -1, 0), x.dredge(0, 30, 0),
            x.dredge(0, 0, -1001), x.dredge(0, 0, 5001)};
        for (int b : badDredge) {
            due("dredge", b, BAD);
        }
        for (int i = 1; i <= 60; i++) {
            due("dredge", x.dredge(15, 29, 5000 - i), i);
        }
        due("61st", x.dredge(0, 0, 0), FULL);
        due("61st, bad", x.dredge(0, 30, 0), BAD);
        due("dredgings", x.count(4), 60);
        x.survey(3, 0);
        due("all are kept", x.depth(15, LAST, 0), bits(49.4));
        ofDepths();
        ofWater();
    }

    private static void ofDepths() {
        promise = 20;
        TideDesk x = new TideDesk();
        x.survey(5, 1);
        x.clock(50);
        x.shoal(5, 250, 0);
        due("shoal", x.depth(1, DAY, 0), NO_REAL);
        due("shoal", x.depth(-1, DAY, 0), NO_REAL);
        due("moment", x.depth(0, -1, 0), NO_REAL);
        due("moment", x.depth(0, LAST + 1, 0), NO_REAL);
        due("known", x.depth(0, DAY, 51), NO_REAL);
        due("known", x.depth(0, DAY, -1), NO_REAL);
        due("bad", x.count(8), 0);
        due("shoal not known", x.depth(0, DAY, 49), NO_REAL);
        due("null", x.finding(), 1);
        due("depth", x.depth(0, DAY, 50), bits(2.5));
        due("no survey", x.depth(0, DAY - 1, 50), NO_REAL);
        due("findings", x.count(8), 2);
        x.clock(60);
        x.dredge(0, 3, 400);
        x.dredge(0, 2, 300);
        x.clock(70);
        x.dredge(0, 3, 450);
        x.dredge(0, 0, 200);
        x.mean(5, 10);
        x.survey(5, 0);
        due("as it was", x.depth(0, 3 * DAY, 59), bits(2.5));
        due("dredged", x.depth(0, 3 * DAY - 1, 60), bits(3.0));
        due("dredged", x.depth(0, 3 * DAY, 69), bits(4.0));
        due("told last", x.depth(0, 3 * DAY, 70), bits(4.5));
        due("told last", x.depth(0, DAY, 70), bits(2.0));
        due("and height", x.depth(0, 0, 70), bits(200 / 100.0 + 10 / 100.0));
    }

    private static void ofWater() {
        promise = 21;
        TideDesk x = new TideDesk();
        x.shoal(1, 333, 0);
        due("no survey", x.water(0, 0), NO_REAL);
        due("null", x.finding(), 1);
        x.mean(1, 111);
        x.survey(1, 0);
        double depth = 333 / 100.0 + 111 / 100.0;
        due("no gauge", x.water(0, 0), bits(depth));
        due("shoal", x.water(1, 0), NO_REAL);
        due("moment", x.water(0, LAST + 1), NO_REAL);
        due("bad", x.count(8), 1);
        x.gauge(2, 0, 60);
        x.gauge(1, 0, 60);
        x.gauge(1, 0, 60);
        x.reading(0, 900, 0);
        x.reading(2, 900, 0);
        due("first gauge has none", x.water(0, 0), bits(depth));
        x.reading(1, -32768, 0);
        due("first gauge has none there", x.water(0, 0), bits(depth));
        due("that is no finding", x.count(8), 1);
        x.clock(60);
        x.reading(1, 200, 0);
        due("not yet", x.water(0, 59), bits(depth));
        due("surge", x.water(0, 60), bits(depth + (200 / 100.0 - 111 / 100.0) * (43200 / 43200.0)));
        due("surge fades", x.water(0, 61), bits(depth + (200 / 100.0 - 111 / 100.0) * (43199 / 43200.0)));
        due("faded", x.water(0, 60 + 43200), bits(depth));
        x.out(1, true);
        due("out", x.water(0, 60), bits(depth));
        x.clock(100);
        x.dredge(0, 0, 100);
        due("as known now", x.water(0, 60), bits(100 / 100.0 + 111 / 100.0));
    }

    // ---- 4 waters, streams

    private static void ofWaters() {
        promise = 22;
        TideDesk x = new TideDesk();
        x.rule(2, 60);
        x.survey(0, 1);
        int[] bad = {x.waters(-1, DAY, 3), x.waters(12, DAY, 3), x.waters(0, -1, 3), x.waters(0, LAST + 1, 3),
            x.waters(0, DAY, 2), x.waters(0, DAY, 201), x.waters(0, LAST - 7199, 3)};
        for (int b : bad) {
            due("waters", b, BAD);
        }
        due("last moment", x.waters(0, LAST - 7200, 3), 0);
        due("flat", x.waters(0, DAY, 200), 0);
        due("no survey at the first", x.waters(0, DAY - 1, 3), NULL);
        due("no survey", x.waters(1, DAY, 3), NULL);
        ofFoundByHalving();
        ofManyWaters();
        ofRanges();
        ofStreams();
    }

    private static void ofFoundByHalving() {
        TideDesk x = new TideDesk();
        x.mean(0, 300);
        x.wave(0, 2000, 1466, 0);
        x.survey(0, 0);
        due("waters", x.waters(0, 0, 200), 5);
        promise = 23;
        int i = 0;
        for (int step = 1; step < 199; step++) {
            double before = oneWave(600 * (step - 1));
            double here = oneWave(600 * step);
            double behind = oneWave(600 * (step + 1));
            boolean high = here > before && here >= behind;
            if (high || here < before && here <= behind) {
                due("moment", x.found(0, i, 0), halved(600 * (step - 1), 600 * (step + 1), high));
                due("high", x.found(0, i, 1), high ? 1 : 0);
                i++;
            }
        }
        due("none", x.found(0, 5, 0), NONE);
        due("none", x.found(0, -1, 1), NONE);
        due("none", x.found(1, 0, 0), NONE);
        due("station", x.found(12, 0, 0), BAD);
        due("station", x.found(-1, 0, 0), BAD);
        due("what", x.found(0, 99, 2), BAD);
        due("what", x.found(0, 0, -1), BAD);
        promise = 24;
        double low = oneWave(x.found(0, 0, 0));
        double high = oneWave(x.found(0, 1, 0));
        x.mean(0, 0);
        x.survey(0, 0);
        due("heights as they were", x.range(0, 0), bits(high - low));
    }

    private static double oneWave(int t) {
        return 300 / 100.0 + 2000 / 1000.0 * cosOf(1466L * t / 1000);
    }

    private static int halved(int from, int to, boolean rises) {
        int low = from;
        int high = to;
        while (high - low > 1) {
            int m = (low + high) / 2;
            boolean goesOn = rises ? oneWave(m + 1) > oneWave(m) : oneWave(m + 1) < oneWave(m);
            low = goesOn ? m : low;
            high = goesOn ? high : m;
        }
        return high;
    }

    private static void ofManyWaters() {
        promise = 22;
        TideDesk x = new TideDesk();
        x.wave(0, 1000, 27307, 0);
        x.survey(0, 0);
        due("forty are kept", x.waters(0, 0, 200), 40);
        due("the 40th", x.found(0, 39, 0) > 0 ? 1 : 0, 1);
        due("the 41st", x.found(0, 40, 0), NONE);
        due("the first ones", x.found(0, 0, 0) < 2400 ? 1 : 0, 1);
        due("fewer then", x.waters(0, 0, 3), x.found(0, 0, 0) == NONE ? 0 : 1);
        x.survey(1, 3);
        int had = x.waters(0, 0, 10);
        due("null", x.waters(1, 0, 10), NULL);
        due("others stay", x.found(0, had - 1, 0) != NONE ? 1 : 0, 1);
        x.wave(2, 1000, 27307, 0);
        x.survey(2, 1);
        int many = x.waters(2, DAY, 20);
        due("null", x.waters(2, 0, 20), NULL);
        due("those of before stay", x.found(2, many - 1, 0) != NONE ? 1 : 0, 1);
    }

    /** Steps up and down by the DAYS; HALVING ends at the first second, but where it hits a step. */
    private static TideDesk stepped(int... means) {
        TideDesk x = new TideDesk();
        x.rule(2, 60);
        for (int day = 0; day < means.length; day++) {
            x.mean(0, means[day]);
            x.survey(0, day);
        }
        return x;
    }

    private static void ofRanges() {
        promise = 24;
        TideDesk x = stepped(0, 100, 200, -50, -50, 300, 0);
        due("waters", x.waters(0, 0, 160), 5);
        int[] highs = {1, 1, 0, 1, 0};
        for (int i = 0; i < 5; i++) {
            due("high", x.found(0, i, 1), highs[i]);
        }
        due("high and high", x.range(0, 0), NO_REAL);
        due("lack", x.finding(), 7);
        due("findings", x.count(8), 1);
        for (int i = 1; i < 4; i++) {
            double a = stepHeight(x, i);
            double b = stepHeight(x, i + 1);
            due("range", x.range(0, i), bits(a > b ? a - b : b - a));
        }
        long[] bad = {x.range(0, 4), x.range(0, -1), x.range(0, 5), x.range(12, 1), x.range(-1, 1), x.range(1, 0),
            x.range(0, Integer.MAX_VALUE)};
        for (long b : bad) {
            due("bad", b, NO_REAL);
        }
        due("bad is no finding", x.count(8), 1);
        promise = 25;
        int greatest = NONE;
        int least = NONE;
        for (int i = 1; i < 4; i++) {
            double r = Double.longBitsToDouble(x.range(0, i));
            greatest = greatest == NONE || r > Double.longBitsToDouble(x.range(0, greatest)) ? i : greatest;
            least = least == NONE || r < Double.longBitsToDouble(x.range(0, least)) ? i : least;
        }
        due("spring", x.spring(0, true), greatest);
        due("neap", x.spring(0, false), least);
        due("no range", x.spring(1, true), NONE);
        due("station", x.spring(12, true), BAD);
        due("station", x.spring(-1, false), BAD);
        TideDesk up = stepped(0, 100, 200, 300);
        due("highs alone", up.waters(0, 0, 100), 3);
        due("no range", up.spring(0, true), NONE);
        due("that is no finding", up.count(8), 0);
        TideDesk like = new TideDesk();
        like.wave(0, 1000, 65536 / 12 * 10 / 36, 0);
        like.survey(0, 0);
        int many = like.waters(0, 0, 200);
        due("first of all", like.spring(0, true), furthest(like, many, true));
        due("first of all", like.spring(0, false), furthest(like, many, false));
    }

    private static int furthest(TideDesk x, int many, boolean great) {
        int best = 0;
        for (int i = 1; i < many - 1; i++) {
            double r = Double.longBitsToDouble(x.range(0, i));
            double b = Double.longBitsToDouble(x.range(0, best));
            best = (great ? r > b : r < b) ? i : best;
        }
        return best;
    }

    private static double stepHeight(TideDesk x, int i) {
        return Double.longBitsToDouble(x.height(0, x.found(0, i, 0), 0));
    }

    private static void ofStreams() {
        promise = 26;
        TideDesk x = new TideDesk();
        int twenty = Float.floatToIntBits(20.0f);
        due("tide", x.tide(0, -6, twenty), 1);
        due("tide", x.tide(0, 6, Float.floatToIntBits(-20.0f)), 1);
        due("tide", x.tide(0, 0, Float.floatToIntBits(-0.0f)), 1);
        int[] bad = {x.tide(-1, 0, 0), x.tide(12, 0, 0), x.tide(0, -7, 0), x.tide(0, 7, 0),
            x.tide(0, 0, twenty + 1), x.tide(0, 0, Float.floatToIntBits(-20.000002f)), x.tide(0, 0, NO_FLOAT),
            x.tide(0, 0, -1), x.tide(0, 0, 0x7f800000), x.tide(0, 0, 0xff800000)};
        for (int b : bad) {
            due("tide", b, BAD);
        }
        for (int hour = -5; hour < 6; hour++) {
            if (hour != 0) {
                x.tide(0, hour, Float.floatToIntBits(hour));
            }
        }
        promise = 27;
        due("station", x.stream(12, 0), NO_FLOAT);
        due("moment", x.stream(0, -1), NO_FLOAT);
        due("moment", x.stream(0, LAST + 1), NO_FLOAT);
        due("bad", x.finding(), 0);
        due("no waters", x.stream(0, 0), NO_FLOAT);
        due("lack", x.finding(), 7);
        x.wave(0, 1000, 65536 * 10 / 864, 32768);
        x.survey(0, 0);
        x.rule(2, 60);
        x.waters(0, 0, 60);
        int first = x.found(0, 0, 0);
        int second = x.found(0, 2, 0);
        due("high", x.found(0, 0, 1), 1);
        due("high", x.found(0, 2, 1), 1);
        due("hour 0", x.stream(0, first), 0x80000000);
        due("hour 0", x.stream(0, first - 1800), 0x80000000);
        due("hour 0", x.stream(0, first + 1799), 0x80000000);
        due("hour 1", x.stream(0, first + 1800), Float.floatToIntBits(1.0f));
        due("hour -1", x.stream(0, first - 1801), Float.floatToIntBits(-1.0f));
        due("hour -6", x.stream(0, first - 23400), twenty);
        due("no hour", x.stream(0, first - 23401), NO_FLOAT);
        due("index", x.finding(), 2);
        due("hour 6", x.stream(0, first + 23399), Float.floatToIntBits(-20.0f));
        due("no hour", x.stream(0, first + 23400), NO_FLOAT);
        due("hour -6 of the second", x.stream(0, second - 23400), twenty);
        due("another row", x.stream(1, first), NO_FLOAT);
        due("lack", x.finding(), 7);
        ofAsNear();
    }

    private static void ofAsNear() {
        int tried = 0;
        for (int speed = 1700; speed < 1900; speed += 3) {
            TideDesk x = new TideDesk();
            x.wave(0, 1000, speed, 32768);
            x.survey(0, 0);
            x.waters(0, 0, 200);
            for (int hour = -6; hour <= 6; hour++) {
                x.tide(0, hour, Float.floatToIntBits(hour));
            }
            int first = x.found(0, 0, 0);
            int second = x.found(0, 2, 0);
            int middle = (first + second) / 2;
            int beyond = middle + 1;
            tried += (first + second) % 2 == 0 ? 1 : 0;
            due("the earlier", x.stream(0, middle), Float.floatToIntBits(Math.floorDiv(middle - first + 1800, 3600)));
            due("the nearer", x.stream(0, beyond), Float.floatToIntBits(Math.floorDiv(beyond - second + 1800, 3600)));
        }
        due("some were as near", tried > 0 ? 1 : 0, 1);
    }

    // ---- 5 ships

    private static void ofShips() {
        promise = 28;
        TideDesk x = new TideDesk();
        int[] bad = {x.ship(-1, 0, 0, 0, 0, 0), x.ship(5, 0, 0, 0, 0, 0), x.ship(0, -1, 0, 0, 0, 0),
            x.ship(0, 3001, 0, 0, 0, 0), x.ship(0, 0, -1, 0, 0, 0), x.ship(0, 0, 3001, 0, 0, 0),
            x.ship(0, 0, 0, -1001, 0, 0), x.ship(0, 0, 0, 1001, 0, 0), x.ship(4, 0, 0, 0, 0, NONE),
            x.ship(4, 0, 0, 0, NONE, 0), x.ship(4, 0, 0, 0, -2, NONE), x.ship(4, 3001, 0, 0, NONE, NONE)};
        for (int b : bad) {
            due("ship", b, BAD);
        }
        due("ship", x.ship(0, 3000, 3000, 1000, -9, 99), 0);
        due("pair", x.ship(4, 0, 0, -1000, NONE, NONE), 1);
        due("pair in pair", x.ship(4, 0, 0, 0, 0, 1), 2);
        due("pair in pair", x.ship(4, 0, 0, 0, 2, 1), 3);
        due("pair in pair", x.ship(4, 0, 0, 0, 3, 3), 4);
        due("5th pair", x.ship(4, 0, 0, 0, 0, 4), NO);
        due("5th pair", x.ship(4, 0, 0, 0, 4, 0), NO);
        due("5th pair, bad", x.ship(4, 0, 0, 0, 4, 5), BAD);
        for (int i = 5; i < 40; i++) {
            due("ship", x.ship(i % 4, 0, 0, 0, 0, 0), i);
        }
        due("41st", x.ship(0, 0, 0, 0, 0, 0), FULL);
        due("41st, bad", x.ship(0, 0, 0, 1001, 0, 0), BAD);
        due("41st, 5th pair", x.ship(4, 0, 0, 0, 4, 4), NO);
        due("ships", x.count(5), 40);
        ofAsks();
        ofPairs();
        ofCasts();
    }

    private static void told(TideDesk x, int ship, int what, int answer, int... bodies) {
        due("ask(" + ship + ", " + what + ")", x.ask(ship, what), 1);
        promise = 30;
        due("asked of " + ship + ", " + what, x.asked(), answer);
        traced(x, bodies);
        promise = 29;
    }

    private static void traced(TideDesk x, int... bodies) {
        promise = 31;
        for (int i = 0; i < bodies.length; i++) {
            due("trace(" + i + ")", x.trace(i), bodies[i]);
        }
        due("end of trace", x.trace(bodies.length), NONE);
        due("trace(-1)", x.trace(-1), NONE);
    }

    private static void ofAsks() {
        promise = 29;
        TideDesk x = new TideDesk();
        x.ship(0, 1239, 500, 7, 0, 0);
        x.ship(1, 1239, 500, 7, 0, 0);
        x.ship(2, 1239, 500, -7, 0, 0);
        x.ship(3, 1239, 500, 7, 0, 0);
        x.ship(2, 1239, 500, 0, 0, 0);
        told(x, 0, 0, 1239 + 100 + 123, 11, 10, 21);
        told(x, 1, 0, 1239 + 30, 10, 20);
        told(x, 2, 0, 1239 + 93 + 123, 11, 10, 22, 21);
        told(x, 3, 0, 1239 + 60, 10, 23, 20);
        told(x, 0, 1, 100, 21);
        told(x, 1, 1, 30, 20);
        told(x, 2, 1, 93, 22, 21);
        told(x, 3, 1, 60, 23, 20);
        told(x, 0, 2, 500, 30);
        told(x, 1, 2, 500, 30);
        told(x, 2, 2, -71, 31, 30);
        told(x, 3, 2, 500, 30);
        told(x, 0, 3, 60, 40);
        told(x, 1, 3, 30, 41);
        told(x, 2, 3, 60, 40);
        told(x, 3, 3, 23, 42, 41);
        told(x, 0, 4, 0, 50);
        told(x, 1, 4, 0, 50);
        told(x, 2, 4, 1, 51);
        told(x, 3, 4, 0, 50);
        told(x, 2, 3, 60, 40);
        due("zero", x.ask(4, 2), ZERO);
        due("finding", x.finding(), 4);
        due("asked stays", x.asked(), 60);
        traced(x, 31, 30);
        promise = 29;
        int[] bad = {x.ask(-1, 0), x.ask(5, 0), x.ask(0, -1), x.ask(0, 5)};
        for (int b : bad) {
            due("ask", b, BAD);
        }
        traced(x, 31, 30);
    }

    private static void ofPairs() {
        promise = 29;
        TideDesk x = new TideDesk();
        x.ship(1, 100, 70, 0, 0, 0);
        x.ship(2, 50, 90, 2, 0, 0);
        x.ship(3, 200, 60, 9, 0, 0);
        x.ship(4, 2000, 1, 900, 0, 1);
        x.ship(4, 0, 0, 0, 2, 3);
        x.ship(4, 0, 0, 0, 0, NONE);
        x.ship(4, 0, 0, 0, NONE, 0);
        x.ship(4, 0, 0, 0, 1, NONE);
        told(x, 3, 0, 157, 12, 10, 20, 11, 10, 22, 21);
        told(x, 3, 1, 30, 20);
        told(x, 3, 2, 45, 32, 30, 31, 30);
        told(x, 3, 3, 45, 43, 41, 40);
        told(x, 3, 4, 1, 52, 50, 51);
        told(x, 4, 0, 260, 12, 10, 23, 20, 12, 10, 20, 11, 10, 22, 21);
        told(x, 4, 2, 45, 32, 30, 32, 30, 31, 30);
        told(x, 4, 3, 33, 43, 42, 41, 43, 41, 40);
        told(x, 4, 4, 1, 52, 50, 52, 50, 51);
        told(x, 7, 4, 1, 52, 51);
        int[] whats = {0, 2, 3, 4};
        int[][] first = {{12, 10, 20}, {32, 30}, {43, 41}, {52, 50}};
        for (int i = 0; i < 4; i++) {
            promise = 29;
            due("nothing", x.ask(5, whats[i]), NULL);
            traced(x, first[i]);
            promise = 29;
            due("nothing", x.ask(6, whats[i]), NULL);
            traced(x, first[i][0]);
        }
        promise = 29;
        told(x, 6, 1, 30, 20);
        TideDesk y = new TideDesk();
        y.ship(2, 100, 100, 3, 0, 0);
        for (int i = 0; i < 4; i++) {
            y.ship(4, 0, 0, 0, i, i);
        }
        y.ask(4, 0);
        due("need of sixteen", y.asked(), 100 + 103 + 10);
        due("trace of sixteen", y.trace(78), 21);
        due("end of trace", y.trace(79), NONE);
        promise = 42;
        due("holds of sixteen, by day", y.holds(4, 0, 0), 1);
        promise = 50;
        y.passage(4, 0, 0);
        due("pass of sixteen", y.pass(0), 1);
        promise = 47;
        due("plan of sixteen", y.plan(), 1);
        promise = 31;
        y.windows(4, 0, 0, 2);
        due("first hundred", y.trace(99) != NONE ? 1 : 0, 1);
        due("no more", y.trace(100), NONE);
    }

    private static void ofCasts() {
        promise = 32;
        int[][] fits = {{1, 0, 0, 0, 0}, {0, 1, 0, 0, 0}, {1, 0, 1, 0, 0}, {0, 1, 0, 1, 0}, {0, 0, 0, 0, 1}};
        TideDesk x = new TideDesk();
        for (int kind = 0; kind < 5; kind++) {
            x.ship(kind, 0, 0, 10 + kind, NONE, NONE);
        }
        x.ask(0, 3);
        for (int ship = 0; ship < 5; ship++) {
            for (int kind = 0; kind < 5; kind++) {
                int was = x.asked();
                boolean fit = fits[ship][kind] == 1;
                due("as(" + ship + ", " + kind + ")", x.as(ship, kind), fit ? 1 : CAST);
                due("x", x.asked(), fit ? 10 + ship : was);
            }
        }
        due("trace stays", x.trace(0), 40);
        due("nothing", x.as(NONE, 2), NULL);
        int[] bad = {x.as(-2, 0), x.as(5, 0), x.as(0, -1), x.as(0, 5), x.as(NONE, 5)};
        for (int b : bad) {
            due("as", b, BAD);
        }
    }

    // ---- 5 fleets

    private static void ofFleets() {
        promise = 33;
        TideDesk x = new TideDesk();
        for (int kind = 0; kind < 5; kind++) {
            x.ship(kind, 0, 0, 0, NONE, NONE);
        }
        int[] bad = {x.fleet(-1, 0, 0), x.fleet(4, 0, 0), x.fleet(0, -1, 0), x.fleet(0, 6, 0), x.fleet(0, 0, 9),
            x.fleet(0, 6, -1)};
        for (int b : bad) {
            due("fleet", b, BAD);
        }
        due("size", x.fleet(0, 0, -1), SIZE);
        due("size", x.fleet(0, 0, Integer.MIN_VALUE), SIZE);
        due("still nothing", x.member(0, 0), NULL);
        due("fleet", x.fleet(0, 5, 8), 1);
        due("fleet", x.fleet(3, 0, 0), 1);
        x.join(0, 7, 1);
        due("size", x.fleet(0, 0, -1), SIZE);
        due("as it was", x.member(0, 7), 1);
        due("anew", x.fleet(0, 5, 8), 1);
        due("nothing in each", x.member(0, 7), NONE);
        promise = 34;
        boolean[][] takes = {{true, false, true, false, false}, {false, true, false, true, false},
            {false, false, true, false, false}, {false, false, false, true, false},
            {false, false, false, false, true}, {true, true, true, true, true}};
        for (int sort = 0; sort < 6; sort++) {
            x.fleet(1, sort, 2);
            for (int ship = 0; ship < 5; ship++) {
                due("join", x.join(1, 1, NONE), 1);
                due("join", x.join(1, 1, ship), takes[sort][ship] ? 1 : STORE);
                due("member", x.member(1, 1), takes[sort][ship] ? ship : NONE);
            }
        }
        int[] badJoin = {x.join(-1, 0, 0), x.join(4, 0, 0), x.join(0, 0, -2), x.join(0, 0, 5), x.join(2, 9, 5)};
        for (int b : badJoin) {
            due("join", b, BAD);
        }
        due("nothing", x.join(2, 9, 0), NULL);
        due("index", x.join(0, 8, 0), INDEX);
        due("index", x.join(0, -1, 0), INDEX);
        due("index ahead of store", x.join(3, 0, 1), INDEX);
        promise = 35;
        due("member", x.member(-1, 0), BAD);
        due("member", x.member(4, 0), BAD);
        due("nothing", x.member(2, 0), NULL);
        due("index", x.member(3, 0), INDEX);
        due("index", x.member(0, 8), INDEX);
        due("index", x.member(0, -1), INDEX);
        ofMoves();
        ofShares();
    }

    private static void members(TideDesk x, int f, int... ships) {
        for (int i = 0; i < ships.length; i++) {
            due("member(" + f + ", " + i + ")", x.member(f, i), ships[i]);
        }
    }

    private static void ofMoves() {
        promise = 36;
        TideDesk x = new TideDesk();
        for (int kind = 0; kind < 5; kind++) {
            x.ship(kind, 0, 0, 0, NONE, NONE);
        }
        x.fleet(0, 5, 6);
        x.fleet(1, 0, 4);
        int[] all = {2, 0, NONE, 1, 2, 3};
        for (int i = 0; i < 6; i++) {
            x.join(0, i, all[i]);
        }
        for (int i = 0; i < 4; i++) {
            x.join(1, i, 0);
        }
        int[] bad = {x.move(-1, 0, 1, 0, 0), x.move(4, 0, 1, 0, 0), x.move(0, 0, -1, 0, 0), x.move(0, 0, 4, 0, 0)};
        for (int b : bad) {
            due("move", b, BAD);
        }
        due("nothing", x.move(2, 0, 0, 0, 99), NULL);
        due("nothing", x.move(0, 0, 2, 0, -1), NULL);
        int big = Integer.MAX_VALUE;
        int[] index = {x.move(0, -1, 1, 0, 1), x.move(0, 0, 1, -1, 1), x.move(0, 0, 1, 0, -1), x.move(0, 6, 1, 0, 1),
            x.move(0, 0, 1, 0, 5), x.move(0, 0, 1, 2, 3), x.move(0, 7, 1, 0, 0), x.move(0, big, 1, 0, big),
            x.move(0, 1, 1, 0, big), x.move(0, 0, 1, 5, 0), x.move(0, Integer.MIN_VALUE, 1, 0, 0)};
        for (int b : index) {
            due("move", b, INDEX);
        }
        members(x, 1, 0, 0, 0, 0);
        due("none", x.move(0, 6, 1, 4, 0), 0);
        due("three go", x.move(0, 0, 1, 1, 3), 3);
        members(x, 1, 0, 2, 0, NONE);
        due("the second does not go", x.move(0, 1, 1, 0, 4), STORE);
        members(x, 1, 0, NONE, 0, NONE);
        due("itself, behind", x.move(0, 0, 0, 1, 5), 5);
        members(x, 0, 2, 2, 0, NONE, 1, 2);
        due("itself, ahead", x.move(0, 1, 0, 0, 5), 5);
        members(x, 0, 2, 0, NONE, 1, 2, 2);
        x.fleet(3, 2, 3);
        due("by what stands, not by sort", x.move(0, 4, 3, 1, 2), 2);
        members(x, 3, NONE, 2, 2);
        due("first does not go", x.move(0, 1, 3, 0, 2), STORE);
        members(x, 3, NONE, 2, 2);
    }

    private static void ofShares() {
        promise = 37;
        TideDesk x = new TideDesk();
        x.ship(0, 0, 0, 0, 0, 0);
        due("nothing", x.shared(0, 10), NULL);
        x.fleet(0, 5, 8);
        due("none stand", x.shared(0, 10), ZERO);
        x.join(0, 1, 0);
        x.join(0, 3, 0);
        x.join(0, 7, 0);
        due("shared", x.shared(0, 1000000), 1);
        due("cut", x.asked(), 333333);
        due("shared", x.shared(0, 0), 1);
        due("cut", x.asked(), 0);
        x.shared(0, 7);
        int[] bad = {x.shared(-1, 0), x.shared(4, 0), x.shared(0, -1), x.shared(0, 1000001)};
        for (int b : bad) {
            due("shared", b, BAD);
        }
        due("asked stays", x.asked(), 2);
    }

    // ---- 6 routes

    private static void ofRoutes() {
        promise = 38;
        TideDesk x = new TideDesk();
        x.shoal(0, 0, 0);
        int one = Float.floatToIntBits(1.0f);
        int[] bad = {x.leg(-1, 0, 0, 0), x.leg(6, 0, 0, 0), x.leg(0, -1, 0, 0), x.leg(0, 1, 0, 0), x.leg(0, 0, -1, 0),
            x.leg(0, 0, 50001, 0), x.leg(0, 0, 0, 0x80000001), x.leg(0, 0, 0, 0xff800000),
            x.leg(0, 0, 0, Float.floatToIntBits(-1.0f))};
        for (int b : bad) {
            due("leg", b, BAD);
        }
        due("-0.0", x.leg(0, 0, 10, 0x80000000), 1);
        due("endless", x.leg(0, 0, 10, 0x7f800000), 2);
        due("below the one ahead", x.leg(0, 0, 9, one), BAD);
        due("no number", x.leg(0, 0, 11, 0xffffffff), 3);
        due("leg", x.leg(0, 0, 50000, NO_FLOAT), 4);
        due("5th", x.leg(0, 0, 50000, one), FULL);
        due("5th, below", x.leg(0, 0, 49999, one), BAD);
        x.ship(1, 0, 100, 0, 0, 0);
        x.passage(0, 1, 0);
        due("waits", x.leg(1, 0, 0, NO_FLOAT), 1);
        due("waits", x.clear(1), 1);
        x.plan();
        due("start", x.planned(0, 1), 0);
        due("has a start", x.leg(1, 0, 0, NO_FLOAT), NO);
        due("has a start, bad", x.leg(1, 1, 0, NO_FLOAT), BAD);
        promise = 39;
        due("has a start", x.clear(1), NO);
        due("clear", x.clear(0), 4);
        due("clear", x.clear(0), 0);
        due("clear", x.clear(-1), BAD);
        due("clear", x.clear(6), BAD);
        due("distance anew", x.leg(0, 0, 0, NO_FLOAT), 1);
        x.again(0);
        due("waits again", x.clear(1), 0);
        promise = 40;
        due("sun", x.sun(0, 86400), 1);
        due("sun", x.sun(86400, 0), 1);
        int[] badSun = {x.sun(-1, 0), x.sun(0, -1), x.sun(86401, 0), x.sun(0, 86401)};
        for (int b : badSun) {
            due("sun", b, BAD);
        }
        ofComing();
        ofHolding();
        ofMarks();
        ofWindows();
    }

    private static void ofComing() {
        promise = 41;
        TideDesk x = new TideDesk();
        x.shoal(0, 0, 0);
        x.leg(0, 0, 0, NO_FLOAT);
        x.leg(0, 0, 1000, NO_FLOAT);
        x.leg(0, 0, 50000, NO_FLOAT);
        x.ship(1, 0, 300, 0, 0, 0);
        x.ship(1, 0, 0, 0, 0, 0);
        x.ship(2, 0, 300, 0, 0, 0);
        x.ship(2, 0, 300, -1, 0, 0);
        x.ship(4, 0, 300, 0, NONE, 0);
        x.ship(1, 0, 1, 0, 0, 0);
        due("comes", x.comes(0, 0, 0, 5), 5);
        due("comes", x.comes(0, 0, 1, 5), 5 + 333);
        traced(x, 30);
        promise = 41;
        due("comes last", x.comes(0, 0, 1, LAST - 333), LAST);
        due("beyond", x.comes(0, 0, 1, LAST - 332), NO);
        due("far beyond", x.comes(5, 0, 2, LAST), NO);
        due("no pace", x.comes(1, 0, 0, 0), NO);
        due("pace below 1", x.comes(3, 0, 0, 0), NO);
        due("zero", x.comes(2, 0, 0, 0), ZERO);
        traced(x, 31, 30);
        promise = 41;
        due("nothing", x.comes(4, 0, 0, 0), NULL);
        traced(x, 32);
        promise = 41;
        int[] bad = {x.comes(-1, 0, 0, 0), x.comes(6, 0, 0, 0), x.comes(0, -1, 0, 0), x.comes(0, 6, 0, 0),
            x.comes(0, 0, 3, 0), x.comes(0, 0, -1, 0), x.comes(0, 1, 0, 0), x.comes(0, 0, 0, -1),
            x.comes(0, 0, 0, LAST + 1)};
        for (int b : bad) {
            due("comes", b, BAD);
        }
        traced(x, 32);
    }

    private static void ofHolding() {
        promise = 42;
        TideDesk x = new TideDesk();
        x.mean(0, 130);
        x.survey(0, 1);
        x.shoal(0, 0, 0);
        x.ship(1, 100, 3000, 0, 0, 0);
        x.ship(1, 101, 3000, 0, 0, 0);
        x.ship(2, 0, 3000, 30, 0, 0);
        x.ship(1, 0, 0, 0, 0, 0);
        x.ship(2, 0, 3000, 0, 0, 0);
        x.ship(4, 0, 3000, 0, 0, NONE);
        x.leg(0, 0, 0, NO_FLOAT);
        x.leg(1, 0, 50000, NO_FLOAT);
        x.leg(2, 0, 59, NO_FLOAT);
        int[] bad = {x.holds(-1, 0, 0), x.holds(6, 0, 0), x.holds(0, -1, 0), x.holds(0, 6, 0), x.holds(0, 0, -1),
            x.holds(0, 0, 43200)};
        for (int b : bad) {
            due("holds", b, BAD);
        }
        due("deep enough", x.holds(0, 0, 1440), 1);
        traced(x, 10, 20, 30, 50);
        promise = 42;
        due("not deep enough", x.holds(1, 0, 1440), 0);
        due("no survey", x.holds(0, 0, 1439), NULL);
        due("no pace", x.holds(3, 0, 1440), NO);
        traced(x, 10, 20, 30, 50);
        promise = 42;
        due("zero", x.holds(4, 0, 1440), ZERO);
        traced(x, 11, 10, 22, 21, 31, 30);
        promise = 42;
        due("nothing", x.holds(5, 3, 1440), NULL);
        traced(x, 12, 10, 20);
        promise = 42;
        due("no legs", x.holds(1, 3, 0), 1);
        due("no legs, no pace", x.holds(3, 3, 0), NO);
        due("comes beyond", x.holds(0, 1, 43199), NO);
        due("comes late", x.holds(0, 1, 43199 - 27), 1);
        promise = 40;
        due("before rise", x.holds(2, 0, 1440 + 359), 0);
        due("rise", x.holds(2, 0, 1440 + 360), 1);
        due("before set", x.holds(2, 0, 1440 + 1079), 1);
        due("set", x.holds(2, 0, 1440 + 1080), 0);
        due("a second before rise", x.holds(2, 2, 1440 + 359), 0);
        due("a second before set", x.holds(2, 2, 1440 + 1079), 1);
        x.sun(3600, 7260);
        due("before rise", x.holds(2, 0, 1440 + 59), 0);
        due("rise", x.holds(2, 0, 1440 + 60), 1);
        due("before set", x.holds(2, 0, 1440 + 120), 1);
        due("set", x.holds(2, 0, 1440 + 121), 0);
        due("night ahead of no survey", x.holds(2, 0, 0), 0);
        due("not by day", x.holds(0, 0, 1440), 1);
        x.gauge(0, DAY, 60);
        x.clock(DAY);
        x.reading(0, 129, 0);
        promise = 42;
        due("surge", x.holds(0, 0, 1440), 0);
        due("surge faded", x.holds(0, 0, 1440 + 720), 1);
    }

    private static void ofMarks() {
        promise = 42;
        TideDesk x = new TideDesk();
        x.wave(0, 1000, 65536 * 10 / 432, 32768);
        x.survey(0, 0);
        x.shoal(0, 5000, 0);
        x.ship(1, 0, 3000, 0, 0, 0);
        x.ship(1, 3000, 3000, 0, 0, 0);
        x.ship(1, 3000, 3000, 0, 0, 0);
        float[] marks = {2.0f, 2.0000002f, 0.0f, -0.0f, Float.POSITIVE_INFINITY};
        for (int r = 0; r < 5; r++) {
            x.leg(r, 0, 0, Float.floatToIntBits(marks[r]));
        }
        due("lack", x.holds(0, 0, 0), LACK);
        x.dredge(0, 0, 0);
        due("water is asked first", x.holds(1, 0, 0), 0);
        x.dredge(0, 0, 5000);
        x.rule(2, 60);
        x.waters(0, 0, 40);
        int minute = x.found(0, 0, 0) / 60;
        due("index", x.holds(0, 0, 43000), INDEX);
        x.tide(0, 0, Float.floatToIntBits(-2.0f));
        int[] below = {0, 1, 0, 0, 1};
        for (int r = 0; r < 5; r++) {
            due("mark " + marks[r], x.holds(0, r, minute), below[r]);
        }
        x.tide(0, 0, Float.floatToIntBits(-0.0f));
        int[] still = {1, 1, 0, 0, 1};
        for (int r = 0; r < 5; r++) {
            due("mark " + marks[r], x.holds(0, r, minute), still[r]);
        }
        x.leg(5, 0, 0, 0x7fffffff);
        due("no mark", x.holds(0, 5, 43000), 1);
    }

    private static void ofWindows() {
        promise = 43;
        TideDesk x = new TideDesk();
        x.wave(0, 1000, 60000, 0);
        x.survey(0, 0);
        x.shoal(0, 130, 0);
        x.ship(1, 100, 100, 0, 0, 0);
        x.ship(1, 0, 0, 0, 0, 0);
        x.leg(0, 0, 0, NO_FLOAT);
        x.leg(2, 0, 50000, NO_FLOAT);
        int[] bad = {x.windows(-1, 0, 0, 1), x.windows(2, 0, 0, 1), x.windows(0, -1, 0, 1), x.windows(0, 6, 0, 1),
            x.windows(0, 0, -1, 1), x.windows(0, 0, 43200, 1), x.windows(0, 0, 43199, 2), x.windows(0, 0, 0, 0),
            x.windows(0, 0, 0, 121)};
        for (int b : bad) {
            due("windows", b, BAD);
        }
        int many = 0;
        int first = NONE;
        int last = NONE;
        x.windows(0, 0, 100, 120);
        promise = 44;
        for (int m = 100; m <= 220; m++) {
            boolean holds = m < 220 && cosOf(60000L * m * 60 / 1000) >= 0;
            if (holds && first == NONE) {
                first = m;
            }
            if (!holds && first != NONE) {
                last = m - 1;
                due("first of " + many, x.window(many, false), many < 20 ? first : NONE);
                due("last of " + many, x.window(many, true), many < 20 ? last : NONE);
                many++;
                first = NONE;
            }
        }
        due("enough to tell", many > 3 ? 1 : 0, 1);
        due("kept", x.count(7), Math.min(many, 20));
        due("none", x.window(-1, true), NONE);
        due("none", x.window(many, true), NONE);
        x.windows(9, 0, 0, 1);
        due("refused: as before", x.count(7), Math.min(many, 20));
        ofTwentyWindows();
        promise = 43;
        due("whole", x.windows(0, 1, 43080, 120), 1);
        due("first", x.window(0, false), 43080);
        due("last", x.window(0, true), 43199);
        due("one", x.windows(0, 1, 43199, 1), 1);
        due("NO is none", x.windows(1, 1, 0, 120), 0);
        promise = 45;
        due("NO is no finding", x.wrong(0), 0);
        due("NO is no finding", x.wrong(1), 0);
        ofWrong();
    }

    /** Minutes that hold by turns, for the SURGE is that of the READING of each minute alone. */
    private static void ofTwentyWindows() {
        promise = 43;
        TideDesk x = new TideDesk();
        x.survey(0, 0);
        x.shoal(0, 30, 0);
        x.ship(1, 0, 100, 0, 0, 0);
        x.leg(0, 0, 0, NO_FLOAT);
        x.gauge(0, 0, 60);
        x.rule(0, 1);
        x.clock(DAY);
        for (int m = 0; m < 120; m++) {
            boolean holds = m % 3 != 0 || m >= 90;
            x.reading(0, holds ? 0 : -1, 0);
        }
        due("twenty at most", x.windows(0, 0, 0, 120), 20);
        promise = 44;
        for (int i = 0; i < 20; i++) {
            due("first", x.window(i, false), 3 * i + 1);
            due("last", x.window(i, true), 3 * i + 2);
        }
        due("21st", x.window(20, true), NONE);
        promise = 43;
        due("to the end", x.windows(0, 0, 80, 40), 4);
        promise = 44;
        due("last", x.window(3, false), 88);
        due("last", x.window(3, true), 119);
    }

    private static void ofWrong() {
        TideDesk x = new TideDesk();
        x.wave(0, 1, 1, 0);
        x.survey(0, 0);
        x.shoal(0, 5000, 0);
        x.shoal(1, 5000, 0);
        x.ship(2, 0, 100, 1, 0, 0);
        x.ship(1, 0, 100, 0, 0, 0);
        x.leg(0, 1, 0, NO_FLOAT);
        x.leg(1, 0, 0, 0);
        promise = 45;
        due("windows", x.windows(0, 0, 300, 120), 0);
        due("by day alone they look", x.wrong(0), 60);
        due("null", x.wrong(1), 1);
        due("findings", x.count(8), 60);
        due("lack", x.windows(1, 1, 0, 2), 0);
        due("two", x.wrong(0), 2);
        due("lack", x.wrong(1), 7);
        due("finding", x.finding(), 7);
        x.windows(1, 1, 0, 0);
        due("refused: as before", x.wrong(0), 2);
        x.windows(1, 2, 0, 5);
        due("none", x.wrong(0), 0);
        due("none", x.wrong(1), 0);
        due("finding stays", x.finding(), 7);
        due("what", x.wrong(2), BAD);
        due("what", x.wrong(-1), BAD);
    }

    // ---- 6 passages

    private static void ofPassages() {
        promise = 46;
        TideDesk x = new TideDesk();
        x.ship(1, 0, 100, 0, 0, 0);
        int[] bad = {x.passage(-1, 0, 0), x.passage(1, 0, 0), x.passage(0, -1, 0), x.passage(0, 6, 0),
            x.passage(0, 0, -1), x.passage(0, 0, 43200)};
        for (int b : bad) {
            due("passage", b, BAD);
        }
        for (int i = 0; i < 40; i++) {
            due("passage", x.passage(0, 5, 43199), i);
        }
        due("41st", x.passage(0, 0, 0), FULL);
        due("41st, bad", x.passage(0, 6, 0), BAD);
        due("passages", x.count(6), 40);
        promise = 47;
        due("all start", x.plan(), 40);
        due("none waits", x.plan(), 0);
        ofPlanned();
        ofOrder();
        ofPatience();
        ofLocks();
        ofReaches();
        ofPlanFindings();
        ofPassing();
    }

    private static void ofPlanned() {
        promise = 48;
        TideDesk x = new TideDesk();
        x.ship(1, 0, 100, 0, 0, 0);
        x.ship(1, 0, 0, 0, 0, 0);
        x.clock(11);
        x.passage(0, 0, 9);
        x.passage(1, 0, 9);
        due("waits", x.planned(0, 0), 1);
        due("start", x.planned(0, 1), NONE);
        due("since", x.planned(0, 2), 11);
        x.clock(12);
        due("plan", x.plan(), 1);
        due("waits", x.planned(0, 0), 0);
        due("start", x.planned(0, 1), 9);
        due("since", x.planned(0, 2), 11);
        due("waits", x.planned(1, 0), 0);
        due("start", x.planned(1, 1), NONE);
        int[] bad = {x.planned(-1, 0), x.planned(2, 0), x.planned(0, -1), x.planned(0, 3)};
        for (int b : bad) {
            due("planned", b, BAD);
        }
        promise = 49;
        x.clock(13);
        due("again", x.again(0), 1);
        due("waits", x.planned(0, 0), 1);
        due("start", x.planned(0, 1), NONE);
        due("since", x.planned(0, 2), 13);
        x.clock(14);
        due("it waits", x.again(0), NO);
        due("since", x.planned(0, 2), 13);
        due("one without start", x.again(1), 1);
        due("bad", x.again(2), BAD);
        due("bad", x.again(-1), BAD);
    }

    /** One SHOAL with a LOCK of 600 seconds at the start of ROUTE 0, deep enough for all. */
    private static TideDesk lockAtStart() {
        TideDesk x = new TideDesk();
        x.survey(0, 0);
        x.shoal(0, 5000, 600);
        x.shoal(0, 5000, 0);
        x.shoal(0, 5000, 0);
        x.ship(1, 0, 100, 0, 0, 0);
        x.ship(3, 0, 100, 25, 0, 0);
        x.ship(3, 0, 100, -1000, 0, 0);
        x.ship(3, 0, 100, 30, 0, 0);
        x.leg(0, 0, 0, NO_FLOAT);
        return x;
    }

    private static void ofOrder() {
        promise = 47;
        TideDesk x = lockAtStart();
        x.passage(0, 0, 0);
        x.passage(0, 0, 0);
        x.passage(0, 0, 0);
        x.passage(0, 0, 0);
        due("by numbers", x.plan(), 3);
        for (int p = 0; p < 3; p++) {
            due("one behind the other", x.planned(p, 1), 10 * p);
        }
        due("patience is at an end", x.planned(3, 1), NONE);
        TideDesk y = lockAtStart();
        y.passage(0, 0, 0);
        y.plan();
        y.clock(1);
        y.passage(0, 0, 0);
        y.clock(2);
        y.again(0);
        y.passage(0, 0, 0);
        due("those that wait longest first", y.plan(), 3);
        due("told first, waits last", y.planned(0, 1), 10);
        due("waits longest", y.planned(1, 1), 0);
        due("of like ones by numbers", y.planned(2, 1), 20);
    }

    private static void ofPatience() {
        promise = 47;
        TideDesk x = lockAtStart();
        for (int i = 0; i < 13; i++) {
            x.passage(2, 0, 0);
        }
        due("120 at most", x.plan(), 12);
        due("the last", x.planned(11, 1), 110);
        due("no more", x.planned(12, 1), NONE);
        TideDesk y = lockAtStart();
        y.passage(1, 0, 0);
        y.passage(1, 0, 0);
        y.passage(1, 0, 6);
        y.passage(3, 3, 0);
        due("five minutes", y.plan(), 2);
        due("first", y.planned(0, 1), 0);
        due("too late", y.planned(1, 1), NONE);
        due("the last of five", y.planned(2, 1), 10);
        due("no patience", y.planned(3, 1), NONE);
        TideDesk z = lockAtStart();
        z.passage(0, 0, 43190);
        z.passage(0, 0, 43195);
        due("up to 43199", z.plan(), 1);
    }

    private static void ofLocks() {
        promise = 47;
        TideDesk x = lockAtStart();
        x.passage(1, 0, 100);
        x.passage(1, 0, 96);
        x.passage(1, 0, 90);
        due("locks", x.plan(), 2);
        due("first", x.planned(0, 1), 100);
        due("none free", x.planned(1, 1), NONE);
        due("ends as the other begins", x.planned(2, 1), 90);
        TideDesk y = lockAtStart();
        y.leg(1, 1, 0, NO_FLOAT);
        y.leg(2, 1, 0, NO_FLOAT);
        y.leg(2, 0, 1, NO_FLOAT);
        y.passage(0, 1, 0);
        y.passage(0, 1, 0);
        y.passage(0, 0, 0);
        y.passage(0, 2, 0);
        y.passage(0, 5, 0);
        due("all start", y.plan(), 5);
        due("no lock", y.planned(1, 1), 0);
        due("lock by the other way", y.planned(3, 1), 10);
        due("no legs", y.planned(4, 1), 0);
        TideDesk z = lockAtStart();
        z.shoal(0, 5000, 1);
        z.leg(1, 3, 0, NO_FLOAT);
        z.passage(0, 1, 0);
        z.passage(0, 1, 0);
        due("a lock of a second", z.plan(), 2);
        due("a minute later", z.planned(1, 1), 1);
    }

    private static void ofReaches() {
        promise = 47;
        TideDesk x = lockAtStart();
        x.leg(1, 1, 0, NO_FLOAT);
        x.leg(1, 2, 600, NO_FLOAT);
        x.leg(2, 2, 0, NO_FLOAT);
        x.leg(2, 1, 600, NO_FLOAT);
        x.leg(3, 1, 0, NO_FLOAT);
        x.leg(3, 1, 600, NO_FLOAT);
        x.leg(4, 1, 60, NO_FLOAT);
        x.leg(4, 2, 60, NO_FLOAT);
        x.passage(0, 1, 0);
        x.passage(0, 1, 0);
        x.passage(0, 2, 0);
        x.passage(0, 3, 0);
        x.passage(0, 3, 0);
        x.passage(0, 4, 0);
        due("reaches", x.plan(), 6);
        due("the same way", x.planned(1, 1), 10);
        due("the other way", x.planned(2, 1), 20);
        due("one shoal twice: another reach", x.planned(3, 1), 0);
        due("one shoal twice", x.planned(4, 1), 10);
        due("of no length: as another begins", x.planned(5, 1), 9);
        TideDesk y = lockAtStart();
        y.leg(4, 1, 60, NO_FLOAT);
        y.leg(4, 2, 60, NO_FLOAT);
        y.leg(1, 1, 0, NO_FLOAT);
        y.leg(1, 2, 600, NO_FLOAT);
        y.passage(0, 4, 0);
        y.passage(0, 4, 0);
        y.passage(0, 1, 0);
        due("reaches", y.plan(), 3);
        due("both of no length", y.planned(1, 1), 0);
        due("round one of no length", y.planned(2, 1), 1);
        ofNoReachBehindTheLastLeg();
    }

    private static void ofNoReachBehindTheLastLeg() {
        TideDesk x = lockAtStart();
        x.leg(1, 1, 0, NO_FLOAT);
        x.leg(1, 2, 600, NO_FLOAT);
        x.leg(2, 1, 0, NO_FLOAT);
        x.leg(2, 2, 600, NO_FLOAT);
        x.clear(2);
        x.leg(2, 1, 0, NO_FLOAT);
        x.holds(0, 1, 100);
        x.passage(0, 2, 0);
        x.passage(0, 1, 0);
        due("both start", x.plan(), 2);
        due("no reach", x.planned(1, 1), 0);
    }

    private static void ofPlanFindings() {
        promise = 47;
        TideDesk x = new TideDesk();
        x.survey(0, 1);
        x.shoal(0, 5000, 600);
        x.ship(4, 0, 0, 0, NONE, NONE);
        x.ship(1, 0, 100, 0, 0, 0);
        x.ship(2, 0, 100, 0, 0, 0);
        x.leg(0, 0, 0, NO_FLOAT);
        x.passage(0, 1, 0);
        due("patience of nothing", x.plan(), 0);
        traced(x, 43);
        promise = 47;
        due("one finding", x.count(8), 1);
        due("null", x.finding(), 1);
        x.passage(1, 0, 1435);
        x.passage(2, 0, 1435);
        due("a minute with a finding", x.plan(), 0);
        due("a finding each", x.count(8), 3);
        due("zero", x.finding(), 4);
        due("no start", x.planned(1, 1), NONE);
        due("planned", x.planned(1, 0), 0);
        traced(x, 41, 10, 20, 30, 50, 40, 11, 10, 22, 21, 31, 30);
        promise = 47;
        x.plan();
        traced(x);
    }

    private static void ofPassing() {
        promise = 50;
        TideDesk x = new TideDesk();
        x.shoal(0, 0, 1);
        x.shoal(0, 0, 7200);
        x.shoal(0, 0, 0);
        x.ship(3, 0, 0, 0, 0, 0);
        x.ship(2, 0, 0, 0, 0, 0);
        x.ship(4, 0, 0, 0, 0, NONE);
        x.ship(4, 0, 0, 0, 0, 1);
        for (int i = 0; i < 4; i++) {
            x.leg(0, new int[] {0, 2, 2, 1}[i], 0, NO_FLOAT);
            x.leg(1, new int[] {1, 0, 2, 1}[i], 0, NO_FLOAT);
        }
        x.passage(0, 0, 0);
        x.passage(0, 1, 0);
        x.passage(1, 0, 0);
        x.passage(2, 0, 0);
        x.passage(0, 2, 0);
        x.passage(3, 1, 0);
        due("bad", x.pass(-1), BAD);
        due("bad", x.pass(6), BAD);
        promise = 51;
        due("bad is no try", x.tries(), 0);
        promise = 50;
        due("passes", x.pass(0), 1);
        traced(x, 10, 23, 20, 30, 42, 41);
        held(x, 2);
        due("it waits still", x.planned(0, 0), 1);
        due("held", x.pass(1), HELD);
        due("finding", x.finding(), 8);
        traced(x, 10, 23, 20);
        held(x, 2);
        due("zero", x.pass(2), ZERO);
        traced(x, 11, 10, 22, 21, 31, 30);
        held(x, 2);
        due("need of nothing", x.pass(3), NULL);
        traced(x, 12, 10, 23, 20);
        held(x, 0);
        due("free again", x.pass(0), 1);
        held(x, 2);
        due("no legs", x.pass(4), 1);
        held(x, 0);
        due("held ahead of pace", x.pass(5), HELD);
        held(x, 2);
        promise = 51;
        due("tries", x.tries(), 7);
        x.pass(99);
        due("tries", x.tries(), 7);
        promise = 52;
        due("what", x.held(2), BAD);
        due("what", x.held(-1), BAD);
    }

    private static void held(TideDesk x, int most) {
        promise = 52;
        due("held now", x.held(0), 0);
        due("held at most", x.held(1), most);
        promise = 50;
    }

    // ---- 3000 findings

    private static void ofTheLimitOfFindings() {
        TideDesk x = new TideDesk();
        x.survey(0, 0);
        x.wave(1, 1000, 3000, 32768);
        x.survey(1, 0);
        x.waters(1, 0, 200);
        x.shoal(0, 5000, 0);
        x.shoal(2, 0, 0);
        x.gauge(0, 0, 60);
        x.reading(0, 5, 6);
        x.ship(1, 0, 100, 0, 0, 0);
        x.fleet(0, 5, 2);
        x.join(0, 0, 0);
        x.leg(0, 0, 0, NO_FLOAT);
        x.leg(1, 1, 0, NO_FLOAT);
        x.passage(0, 0, 0);
        x.passage(0, 1, 0);
        x.clock(60);
        for (int i = 0; i < 24; i++) {
            x.windows(0, 1, 0, 120);
        }
        x.windows(0, 1, 0, 118);
        x.pass(0);
        promise = 43;
        due("findings", x.count(8), 2998);
        x.at(0, 5);
        due("findings", x.count(8), 2999);
        due("one call may go beyond", x.windows(0, 1, 0, 120), 0);
        due("findings", x.count(8), 3119);
        x.ask(0, 0);
        refusals(x);
        promise = 7;
        due("no finding more", x.count(8), 3119);
        due("finding stays", x.finding(), 1);
        due("trace stays", x.trace(0), 10);
        due("tries stay", x.tries(), 1);
        due("held stays", x.held(1), 0);
        due("those wait still", x.planned(0, 0), 1);
        due("wrong stays", x.wrong(0), 120);
        allowed(x);
    }

    private static void refusals(TideDesk x) {
        int[][] full = {{8, x.force(0, 0, 0)}, {10, x.reading(0, 0, 0)}, {14, x.compare(0, 0, 0)},
            {22, x.waters(1, 0, 200)}, {29, x.ask(0, 0)}, {32, x.as(0, 1)}, {33, x.fleet(0, 0, 0)},
            {34, x.join(0, 0, 0)}, {35, x.member(0, 0)}, {36, x.move(0, 0, 0, 0, 0)}, {37, x.shared(0, 0)},
            {41, x.comes(0, 0, 0, 0)}, {42, x.holds(0, 0, 0)}, {43, x.windows(0, 0, 0, 1)}, {47, x.plan()},
            {50, x.pass(0)}};
        for (int[] call : full) {
            promise = call[0];
            due("full", call[1], FULL);
        }
        int[][] bad = {{8, x.force(0, 0, 61)}, {10, x.reading(1, 0, 0)}, {14, x.compare(1, 0, 0)},
            {22, x.waters(1, 0, 2)}, {29, x.ask(0, 5)}, {32, x.as(0, 5)}, {33, x.fleet(0, 0, 9)},
            {34, x.join(0, 0, 1)}, {35, x.member(4, 0)}, {36, x.move(0, 0, 4, 0, 0)}, {37, x.shared(0, -1)},
            {41, x.comes(0, 0, 1, 0)}, {42, x.holds(0, 0, -1)}, {43, x.windows(0, 0, 0, 0)}, {50, x.pass(2)}};
        for (int[] call : bad) {
            promise = call[0];
            due("bad ahead of full", call[1], BAD);
        }
        long[][] noNumber = {{7, x.height(0, 0, 0)}, {16, x.surge(0, 0)}, {20, x.depth(0, 0, 60)},
            {21, x.water(0, 0)}, {24, x.range(1, 0)}};
        for (long[] call : noNumber) {
            promise = (int) call[0];
            due("full", call[1], NO_REAL);
        }
        promise = 12;
        due("full", x.at(0, 0), -100000);
        promise = 13;
        due("full", x.air(0, 0), NO_FLOAT);
        promise = 27;
        due("full", x.stream(1, 0), NO_FLOAT);
        promise = 10;
        x.gauge(3, 61, 60);
        due("NO ahead of full", x.reading(1, 0, 0), NO);
    }

    private static void allowed(TideDesk x) {
        promise = 3;
        due("mean", x.mean(0, 1), 0);
        promise = 4;
        due("wave", x.wave(0, 0, 0, 0), 1);
        promise = 5;
        due("survey", x.survey(0, 0), 3);
        promise = 6;
        due("cos", x.cos(0), bits(1.0));
        promise = 11;
        due("out", x.out(0, true), 1);
        promise = 18;
        due("shoal", x.shoal(0, 0, 0), 2);
        promise = 19;
        due("dredge", x.dredge(0, 0, 0), 1);
        promise = 23;
        due("found", x.found(1, 0, 1), 1);
        promise = 25;
        due("spring", x.spring(1, true) >= 0 ? 1 : 0, 1);
        promise = 26;
        due("tide", x.tide(0, 0, 0), 1);
        promise = 28;
        due("ship", x.ship(0, 0, 0, 0, 0, 0), 1);
        promise = 38;
        due("leg", x.leg(2, 0, 0, 0), 1);
        promise = 39;
        due("clear", x.clear(2), 1);
        promise = 46;
        due("passage", x.passage(0, 0, 0), 2);
        promise = 49;
        due("again", x.again(0), NO);
    }

    // ---- what the answers are reckoned by

    private static long bits(double v) {
        return Double.doubleToLongBits(v);
    }

    private static double cosOf(long a) {
        long n = Math.floorMod(a, 65536L);
        long m = n > 32768 ? 65536 - n : n;
        long k = m > 16384 ? 32768 - m : m;
        double x = k / 16384.0;
        double y = x * x;
        double inner = 0.020863480763353 - y * 0.000919260274839426;
        double next = 0.253669507901048 - y * inner;
        double outer = 1.2337005501361697 - y * next;
        double c = 1.0 - y * outer;
        return m > 16384 ? -c : c;
    }
}
