import java.lang.reflect.InvocationTargetException;
import java.lang.reflect.Method;

/**
 * For each number of each call the last ones that are as told, and the first ones that are not. A desk on which a
 * call was BAD is in nothing another one than its twin.
 */
final class BoundsOfNumbers {
    private static final int NOW = Harbour.NOW, LAST = Checks.LAST;

    private static String name;
    private static long refusal;
    private static int[] fit;

    private BoundsOfNumbers() {
    }

    static void run() {
        Checks.terms("BAD (a number is not as told, or names nothing)");
        ofWaves();
        ofGauges();
        ofShoals();
        ofWaters();
        ofShips();
        ofFleets();
        ofRoutes();
        ofPassages();
    }

    /** A call with numbers that are as told; what it answers if one is not. */
    private static void call(String itsName, long itsRefusal, int... numbers) {
        name = itsName;
        refusal = itsRefusal;
        fit = numbers;
    }

    private static void ofWaves() {
        Checks.promise(2, "BAD: also one before NOW.");
        call("clock", Checks.BAD, NOW);
        number(0, NOW, LAST);
        Checks.promise(3, "BAD: -100000.");
        call("mean", Checks.FAR_BAD, 0, 0);
        station();
        Checks.terms("a MEAN (-2000 .. 2000; 0)");
        number(1, -2000, 2000);
        Checks.promise(4, "BAD; FULL: 8.");
        call("wave", Checks.BAD, 0, 5, 5, 5);
        station();
        Checks.terms("SIZE 0 .. 9999, SPEED 0 .. 60000, PHASE 0 .. 65535");
        number(1, 0, 9999);
        number(2, 0, 60000);
        number(3, 0, 65535);
        call("survey", Checks.BAD, 0, 0);
        station();
        Checks.promise(5, "from a DAY (0 .. 29) on");
        number(1, 0, 29);
        call("height", Checks.NO_REAL, 0, 90000, 90000);
        station();
        moment(1);
        Checks.promise(7, "HEIGHT at t, as KNOWN at k (not above NOW). BAD, NULL.");
        number(2, 0, NOW);
        call("force", Checks.BAD, 0, 90000, 90000);
        station();
        moment(1);
        Checks.promise(8, "for t, as KNOWN at k. BAD; NULL.");
        number(2, 0, NOW);
    }

    private static void ofGauges() {
        call("gauge", Checks.BAD, 0, 0, 60);
        station();
        moment(1);
        Checks.terms("have a first MOMENT and a STEP (60 .. 7200)");
        number(2, 60, 7200);
        Checks.promise(10, "BAD: GAUGE, a SHORT is -32768 .. 32767.");
        call("reading", Checks.BAD, 0, 0, 0);
        number(0, 0, Harbour.GAUGES - 1);
        number(1, -32768, 32767);
        Checks.promise(11, "BAD.");
        call("out", Checks.BAD, 0, 1);
        number(0, 0, Harbour.GAUGES - 1);
        Checks.promise(12, "BAD, FULL: -100000");
        call("at", Checks.FAR_BAD, 0, 0);
        number(0, 0, Harbour.GAUGES - 1);
        Checks.promise(13, "BAD, NULL, INDEX.");
        call("air", Checks.NO_FLOAT, 0, 0);
        number(0, 0, Harbour.GAUGES - 1);
        Checks.promise(14, "BAD; NULL; INDEX.");
        call("compare", Checks.BAD, 0, 0, 0);
        number(0, 0, Harbour.GAUGES - 1);
        Checks.promise(15, "TAKE (what = 0), FADE (1), STEPS (2) become v: what it was. BAD.");
        call("rule", Checks.BAD, 0, 5);
        number(0, 0, 2);
        Checks.terms("the last TAKE (1 .. 9; 5 at first)");
        number(1, 1, 9);
        Checks.terms("with FADE hours (1 .. 48; 12 at first)");
        call("rule", Checks.BAD, 1, 5);
        number(1, 1, 48);
        Checks.terms("STEPS (1 .. 60 minutes; 10 at first)");
        call("rule", Checks.BAD, 2, 5);
        number(1, 1, 60);
        Checks.promise(16, "SURGE at t. BAD; NULL, LACK.");
        call("surge", Checks.NO_REAL, 0, 90000);
        number(0, 0, Harbour.GAUGES - 1);
        moment(1);
    }

    private static void ofShoals() {
        call("shoal", Checks.BAD, 0, 0, 0);
        station();
        Checks.terms("have BEDS (-1000 .. 5000; hundredths, downward)");
        number(1, -1000, 5000);
        Checks.terms("a LOCK (0: none .. 7200 seconds)");
        number(2, 0, 7200);
        Checks.promise(19, "A DREDGING, from a DAY on: how many of all. BAD; FULL: 60.");
        call("dredge", Checks.BAD, 0, 0, 0);
        number(0, 0, Harbour.SHOALS - 1);
        number(1, 0, 29);
        number(2, -1000, 5000);
        Checks.promise(20, "DEPTH at t as KNOWN at k (not above NOW). BAD; NULL.");
        call("depth", Checks.NO_REAL, 0, 90000, 90000);
        number(0, 0, Harbour.SHOALS - 1);
        moment(1);
        number(2, 0, NOW);
        Checks.promise(21, "WATER at t. BAD; NULL.");
        call("water", Checks.NO_REAL, 0, 90000);
        number(0, 0, Harbour.SHOALS - 1);
        moment(1);
    }

    private static void ofWaters() {
        call("waters", Checks.BAD, 0, 90000, 3);
        station();
        Checks.promise(22, "BAD: n; from, or a last MOMENT, that is none");
        number(1, 0, LAST - 2 * 30 * 60);
        Checks.terms("(n 3 .. 200)");
        number(2, 3, 200);
        call("waters", Checks.BAD, 0, LAST - 100 * 30 * 60, 3);
        number(2, 3, 101);
        Checks.promise(23, "BAD: STATION, what;");
        call("found", Checks.BAD, 0, 0, 0);
        station();
        number(2, 0, 1);
        call("found", Checks.BAD, 0, 99, 0);
        number(2, 0, 1);
        Checks.promise(24, "BAD: also there are not both; LACK.");
        call("range", Checks.NO_REAL, 0, 0);
        number(1, 0, 5);
        for (int station : new int[] {Checks.LEAST, -1, 1, 11, 12, Checks.MOST}) {
            bad(0, station);
        }
        Checks.promise(25, "NONE: there is no RANGE. BAD.");
        call("spring", Checks.BAD, 0, 1);
        station();
        Checks.promise(26, "The FLOAT of an hour -6 .. 6 becomes v (BITS): 1. BAD.");
        call("tide", Checks.BAD, 0, 0, 0);
        station();
        number(1, -6, 6);
        tides();
        Checks.promise(27, "STREAM at t: BITS. BAD; LACK; INDEX.");
        call("stream", Checks.NO_FLOAT, 0, 90000);
        station();
        moment(1);
    }

    private static void tides() {
        Checks.terms("told -20.0 .. 20.0");
        call("tide", Checks.BAD, 0, 0, 0);
        int twenty = Checks.bits(20.0f);
        int below = Checks.bits(-20.0f);
        for (int v : new int[] {twenty, below, twenty - 1, below - 1, 1, 0x80000000, 0x80000001}) {
            fits(2, v);
        }
        for (int v : new int[] {twenty + 1, below + 1, 0x7f7fffff, 0xff7fffff, 0x7f800000, 0xff800000, 0x7f800001,
            0xff800001, Checks.NO_FLOAT, -1, Checks.MOST}) {
            bad(2, v);
        }
    }

    private static void ofShips() {
        Checks.terms("5 SHIPS 0 .. 39 have a KIND: 0 DEEP, 1 LIGHT, 2 TOW (a DEEP, too), 3 FERRY (a LIGHT, too), 4 PAIR;"
            + " a DRAUGHT (0 .. 3000), a PACE (0 .. 3000; hundredths a second), an x (-1000 .. 1000), PAIRS, too.");
        call("ship", Checks.BAD, 0, 0, 0, 0, Checks.NONE, Checks.NONE);
        number(0, 0, 4);
        for (int kind = 0; kind < 5; kind++) {
            call("ship", Checks.BAD, kind, 0, 0, 0, Checks.NONE, Checks.NONE);
            number(1, 0, 3000);
            number(2, 0, 3000);
            number(3, -1000, 1000);
        }
        Checks.terms("A PAIR has two PARTS, SHIPS told before (PAIRS, too: 4 one in the other at most) or NOTHING.");
        call("ship", Checks.BAD, 4, 0, 0, 0, 0, 0);
        number(4, Checks.NONE, Harbour.SHIPS - 1);
        number(5, Checks.NONE, Harbour.SHIPS - 1);
        Checks.promise(28, "PARTS of a PAIR (NONE: NOTHING; else not looked at)");
        for (int kind = 0; kind < 4; kind++) {
            call("ship", Checks.BAD, kind, 0, 0, 0, 0, 0);
            for (int part : new int[] {Checks.LEAST, -2, Harbour.SHIPS, Checks.MOST}) {
                fits(4, part);
                fits(5, part);
            }
        }
        Checks.promise(29, "0 NEED, 1 KEEL, 2 PACE, 3 PATIENCE, 4 BY DAY (1, 0): told by asked(): 1. BAD; NULL, ZERO.");
        call("ask", Checks.BAD, 0, 0);
        number(0, 0, Harbour.SHIPS - 1);
        number(1, 0, 4);
        Checks.promise(32, "BAD; CAST; NULL (NOTHING).");
        call("as", Checks.BAD, 0, 0);
        number(0, Checks.NONE, Harbour.SHIPS - 1);
        number(1, 0, 4);
    }

    private static void ofFleets() {
        Checks.terms("FLEETS 0 .. 3 are NOTHING (at first) or rows of n (0 .. 8) places for SHIPS of a SORT");
        call("fleet", Checks.BAD, 0, 0, 0);
        number(0, 0, 3);
        number(1, 0, 5);
        Checks.promise(33, "BAD: n above 8; SIZE.");
        fits(2, 8);
        bad(2, 9);
        bad(2, Checks.MOST);
        Checks.promise(34, "BAD; NULL, INDEX, STORE.");
        call("join", Checks.BAD, 0, 0, 0);
        number(0, 0, 3);
        number(2, Checks.NONE, Harbour.SHIPS - 1);
        Checks.promise(35, "BAD; NULL, INDEX.");
        call("member", Checks.BAD, 0, 0);
        number(0, 0, 3);
        Checks.promise(36, "BAD; NULL: either;");
        call("move", Checks.BAD, 0, 0, 0, 0, 0);
        number(0, 0, 3);
        number(2, 0, 3);
        Checks.promise(37, "A cost (0 .. 1000000)");
        call("shared", Checks.BAD, 0, 0);
        number(0, 0, 3);
        number(1, 0, 1000000);
    }

    private static void ofRoutes() {
        Checks.terms("6 ROUTES 0 .. 5 have LEGS");
        Checks.promise(38, "BAD: ROUTE, SHOAL, DISTANCE, MARK (BITS)");
        call("leg", Checks.BAD, 4, 0, 50000, Checks.NO_FLOAT);
        number(0, 0, 5);
        number(1, 0, Harbour.SHOALS - 1);
        Checks.terms("a DISTANCE (0 .. 50000, not below the one ahead)");
        number(2, 0, 50000);
        call("leg", Checks.BAD, 1, 0, 50000, Checks.NO_FLOAT);
        number(2, 100, 50000);
        marks();
        Checks.promise(39, "A ROUTE has no LEGS: how many it had. BAD;");
        call("clear", Checks.BAD, 4);
        number(0, 0, 5);
        Checks.promise(40, "RISE and SET (0 .. 86400): 1. BAD.");
        call("sun", Checks.BAD, 9, 9);
        number(0, 0, 86400);
        number(1, 0, 86400);
        Checks.promise(41, "comes to LEG i (PACE alone is asked). BAD;");
        call("comes", Checks.BAD, 0, 0, 0, 0);
        number(0, 0, Harbour.SHIPS - 1);
        // Routes 4 and 5 have no leg 0.
        number(1, 0, 3);
        number(2, 0, 2);
        moment(3);
        Checks.terms("A minute m (of 0 .. 43199)");
        call("holds", Checks.BAD, 0, 0, 0);
        number(0, 0, Harbour.SHIPS - 1);
        number(1, 0, 5);
        number(2, 0, 43199);
    }

    private static void marks() {
        Checks.terms("a MARK (a FLOAT that is not below 0.0, -0.0 and endless ones, too; or NO NUMBER: none)");
        call("leg", Checks.BAD, 4, 0, 0, 0);
        for (int mark : new int[] {0, 0x80000000, 1, 0x7f7fffff, 0x7f800000, 0x7f800001, 0xff800001, Checks.NO_FLOAT,
            Checks.MOST, -1}) {
            fits(3, mark);
        }
        for (int mark : new int[] {0x80000001, Checks.bits(-1.0f), 0xff7fffff, 0xff800000}) {
            bad(3, mark);
        }
    }

    private static void ofPassages() {
        Checks.promise(43, "BAD: SHIP, ROUTE, n, a minute that is none; FULL.");
        call("windows", Checks.BAD, 0, 0, 0, 1);
        number(0, 0, Harbour.SHIPS - 1);
        number(1, 0, 5);
        number(2, 0, 43199);
        Checks.terms("WINDOWS in minutes from a on, n of them (1 .. 120)");
        number(3, 1, 120);
        call("windows", Checks.BAD, 0, 4, 43100, 120);
        number(2, 0, 43080);
        call("windows", Checks.BAD, 0, 4, 43190, 1);
        number(3, 1, 10);
        Checks.promise(45, "BAD.");
        call("wrong", Checks.BAD, 0);
        number(0, 0, 1);
        Checks.promise(46, "A PASSAGE: its number. BAD; FULL: 40.");
        call("passage", Checks.BAD, 0, 0, 0);
        number(0, 0, Harbour.SHIPS - 1);
        number(1, 0, 5);
        number(2, 0, 43199);
        Checks.promise(48, "BAD.");
        call("planned", Checks.BAD, 0, 0);
        number(0, 0, Harbour.PASSAGES - 1);
        number(1, 0, 2);
        Checks.promise(49, "BAD; NO: it WAITS.");
        call("again", Checks.BAD, 0);
        number(0, 0, Harbour.PASSAGES - 1);
        Checks.promise(50, "BAD; FULL; NULL, ZERO, HELD.");
        call("pass", Checks.BAD, 0);
        number(0, 0, Harbour.PASSAGES - 1);
        Checks.promise(52, "BAD.");
        call("held", Checks.BAD, 0);
        number(0, 0, 1);
        Checks.promise(53, "BAD.");
        call("count", Checks.BAD, 0);
        number(0, 0, 8);
    }

    private static void station() {
        Checks.terms("STATIONS 0 .. 11 have a DRAFT");
        number(0, 0, 11);
    }

    private static void moment(int place) {
        Checks.terms("MOMENTS are seconds 0 .. 2591999 (30 DAYS of 86400)");
        number(place, 0, LAST);
    }

    /** The number at a place of the call at hand is as told from least to greatest, and nowhere else. */
    private static void number(int place, int least, int greatest) {
        fits(place, least);
        fits(place, greatest);
        for (int v : new int[] {least - 1, greatest + 1, least - 65536, greatest + 65536, Checks.LEAST, Checks.MOST}) {
            bad(place, v);
        }
    }

    private static int[] with(int place, int v) {
        int[] numbers = fit.clone();
        numbers[place] = v;
        return numbers;
    }

    private static void fits(int place, int v) {
        int[] numbers = with(place, v);
        TideDesk x = Harbour.make();
        int findings = x.count(8);
        long answer = answer(x, numbers);
        // A REAL or a FLOAT that is NO NUMBER, and at(): a FINDING tells that the number was as told.
        boolean isFound = x.count(8) != findings;
        Checks.dueTrue(told(numbers) + " is as told", isFound || answer != refusal);
    }

    private static void bad(int place, int v) {
        int[] numbers = with(place, v);
        Harbour.refused(Harbour::make, told(numbers), refusal, x -> answer(x, numbers));
    }

    private static String told(int[] numbers) {
        StringBuilder all = new StringBuilder(name).append('(');
        for (int i = 0; i < numbers.length; i++) {
            all.append(i == 0 ? "" : ", ").append(numbers[i]);
        }
        return all.append(')').toString();
    }

    private static Method methodOf(String itsName) {
        for (Method m : TideDesk.class.getMethods()) {
            if (m.getName().equals(itsName) && m.getDeclaringClass() == TideDesk.class) {
                return m;
            }
        }
        throw new IllegalStateException("no call " + itsName);
    }

    private static long answer(TideDesk x, int[] numbers) {
        Method m = methodOf(name);
        Object[] all = new Object[numbers.length];
        for (int i = 0; i < all.length; i++) {
            all[i] = m.getParameterTypes()[i] == boolean.class ? (Object) (numbers[i] == 1) : (Object) numbers[i];
        }
        try {
            return ((Number) m.invoke(x, all)).longValue();
        } catch (IllegalAccessException | InvocationTargetException e) {
            throw new IllegalStateException(told(numbers) + " threw", e);
        }
    }
}
