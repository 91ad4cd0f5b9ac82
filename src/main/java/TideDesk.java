/**
 * A tide desk: heights, gauges, shoals, waters, ships, routes and passages, as the document tells them.
 *
 * <p>No act is left to the machine to refuse: each is tested ahead, and what the machine would have had
 * against it is told as a FINDING. FLOATS are kept by their BITS, which order them without any NaN.
 */
public final class TideDesk {
    public static final int NONE = -1, BAD = -2, NO = -3, FULL = -4;

    private static final int NULL = 1, INDEX = 2, CAST = 3, ZERO = 4;
    private static final int SIZE = 5, STORE = 6, LACK = 7, HELD = 8;
    private static final int FINDINGS_ALLOWED = 3000;

    private static final long NO_REAL = 9221120237041090560L;
    private static final long SIGN_OF_REAL = 1L << 63;
    private static final int NO_FLOAT = 2143289344;
    private static final int WITHOUT_SIGN = 0x7fffffff;
    private static final int ENDLESS = 0x7f800000;
    private static final int TWENTY = 0x41a00000;

    /** Refusal of calls whose ordinary answers may lie near -10. */
    private static final int FAR_BAD = -100000;

    private static final int MOMENTS = 2592000, DAY = 86400, DAYS = 30, MINUTES = 43200;
    private static final int STATIONS = 12, WAVES = 8, WAVE_FIELDS = 3, WAVE_ROW = WAVES * WAVE_FIELDS;
    private static final int SURVEYS = 60;
    private static final int GAUGES = 10, READINGS = 120, MOST_TAKEN = 9, NO_SHORT = -32768;
    private static final int SHOALS = 16, DREDGINGS = 60, BEDS = SHOALS + DREDGINGS;
    private static final int MOST_STEPS = 200, WATERS = 40, HOURS = 13, FURTHEST_HOUR = 6;
    private static final int SHIPS = 40, PAIRS_DEEP = 4, TRACED = 100;
    private static final int DEEP = 0, LIGHT = 1, TOW = 2, FERRY = 3, PAIR = 4, ALL_KINDS = 5;
    private static final int NEED = 0, KEEL = 1, PACE = 2, PATIENCE = 3, BY_DAY = 4;
    private static final int FLEETS = 4, PLACES = 8;
    private static final int ROUTES = 6, LEGS = 4;
    private static final int WINDOWS = 20, MOST_MINUTES = 120;
    private static final int PASSAGES = 40;

    private final Findings findings;
    private final Surveys surveys;
    private final Gauges gauges;
    private final Shoals shoals;
    private final Waters tides;
    private final Ships ships;
    private final Fleets fleets;
    private final Routes routes;
    private final Voyages voyages;
    private final Windows kept;
    private final Passages passages;
    private int now;
    private int lastAsked;
    private int lastLacking;

    public TideDesk() {
        // Made as locals, so that no part of this desk is handed on before it stands.
        Findings told = new Findings();
        Surveys book = new Surveys();
        Gauges poles = new Gauges(book);
        Shoals beds = new Shoals(book, poles);
        Waters highsAndLows = new Waters(book);
        Ships all = new Ships();
        Routes ways = new Routes();
        Voyages trials = new Voyages(told, all, ways, beds, highsAndLows);
        findings = told;
        surveys = book;
        gauges = poles;
        shoals = beds;
        tides = highsAndLows;
        ships = all;
        fleets = new Fleets(all);
        routes = ways;
        voyages = trials;
        kept = new Windows();
        passages = new Passages(told, all, ways, beds, trials);
    }

    public int clock(int t) {
        if (!isMoment(t) || t < now) {
            return BAD;
        }
        now = t;
        return 1;
    }

    // ---- 1 waves

    public int mean(int station, int v) {
        if (!isStation(station) || !isWithin(v, -2000, 2000)) {
            return FAR_BAD;
        }
        return surveys.changeMean(station, v);
    }

    public int wave(int station, int size, int speed, int phase) {
        if (!isStation(station) || !isWithin(size, 0, 9999)
                || !isWithin(speed, 0, 60000) || !isWithin(phase, 0, 65535)) {
            return BAD;
        }
        return surveys.addWave(station, size, speed, phase);
    }

    public int survey(int station, int day) {
        if (!isStation(station) || !isDay(day)) {
            return BAD;
        }
        return surveys.takeDraft(station, day, now);
    }

    public long cos(int a) {
        return bitsOf(Surveys.cosine(a));
    }

    public long height(int station, int t, int k) {
        if (!isStation(station) || !isMoment(t) || !isPast(k) || findings.areSpent()) {
            return NO_REAL;
        }
        if (surveys.inForce(station, t, k) == NONE) {
            findings.tell(NULL);
            return NO_REAL;
        }
        return bitsOf(surveys.heightAt(station, t, k));
    }

    public int force(int station, int t, int k) {
        if (!isStation(station) || !isMoment(t) || !isPast(k)) {
            return BAD;
        }
        if (findings.areSpent()) {
            return FULL;
        }
        int survey = surveys.inForce(station, t, k);
        return survey == NONE ? findings.tell(NULL) : surveys.day[survey];
    }

    // ---- 2 gauges

    public int gauge(int station, int first, int step) {
        if (!isStation(station) || !isMoment(first) || !isWithin(step, 60, 7200)) {
            return BAD;
        }
        return gauges.add(station, first, step);
    }

    public int reading(int gauge, int v, int air) {
        if (!isGauge(gauge) || !isWithin(v, -32768, 32767)) {
            return BAD;
        }
        if (gauges.momentOf(gauge, gauges.size[gauge]) > now) {
            return NO;
        }
        if (gauges.size[gauge] >= READINGS || findings.areSpent()) {
            return FULL;
        }
        if (gauges.isOut[gauge]) {
            return findings.tell(NULL);
        }
        return gauges.addReading(gauge, v, isNoFloat(air) ? NO_FLOAT : air);
    }

    public int out(int gauge, boolean is) {
        if (!isGauge(gauge)) {
            return BAD;
        }
        if (gauges.isOut[gauge] == is) {
            return 0;
        }
        gauges.isOut[gauge] = is;
        return 1;
    }

    public int at(int gauge, int i) {
        if (!isGauge(gauge) || findings.areSpent()) {
            return FAR_BAD;
        }
        int fault = gauges.faultAt(gauge, i);
        if (fault != 0) {
            findings.tell(fault);
            return FAR_BAD - fault;
        }
        return gauges.shorts[gauge * READINGS + i];
    }

    public int air(int gauge, int i) {
        if (!isGauge(gauge) || findings.areSpent()) {
            return NO_FLOAT;
        }
        int fault = gauges.faultAt(gauge, i);
        if (fault != 0) {
            findings.tell(fault);
            return NO_FLOAT;
        }
        return gauges.airs[gauge * READINGS + i];
    }

    public int compare(int gauge, int i, int j) {
        if (!isGauge(gauge)) {
            return BAD;
        }
        if (findings.areSpent()) {
            return FULL;
        }
        int fault = gauges.faultAt(gauge, i);
        if (fault == 0) {
            fault = gauges.faultAt(gauge, j);
        }
        if (fault != 0) {
            return findings.tell(fault);
        }
        return relationsOf(gauges.airs[gauge * READINGS + i], gauges.airs[gauge * READINGS + j]);
    }

    public int rule(int what, int v) {
        int was = BAD;
        if (what == 0 && isWithin(v, 1, MOST_TAKEN)) {
            was = gauges.take;
            gauges.take = v;
        } else if (what == 1 && isWithin(v, 1, 48)) {
            was = gauges.fade;
            gauges.fade = v;
        } else if (what == 2 && isWithin(v, 1, 60)) {
            was = tides.steps;
            tides.steps = v;
        }
        return was;
    }

    public long surge(int gauge, int t) {
        if (!isGauge(gauge) || !isMoment(t) || findings.areSpent()) {
            return NO_REAL;
        }
        if (gauges.isOut[gauge]) {
            findings.tell(NULL);
            return NO_REAL;
        }
        int there = gauges.gather(gauge, t, now);
        lastLacking = gauges.missing;
        if (there == 0) {
            findings.tell(LACK);
            return NO_REAL;
        }
        return bitsOf(gauges.fadedMiddle(t));
    }

    public int lacking() {
        return lastLacking;
    }

    // ---- 3 shoals

    public int shoal(int station, int bed, int lock) {
        if (!isStation(station) || !isBed(bed) || !isWithin(lock, 0, 7200)) {
            return BAD;
        }
        return shoals.add(station, bed, lock, now);
    }

    public int dredge(int shoal, int day, int bed) {
        if (!isShoal(shoal) || !isDay(day) || !isBed(bed)) {
            return BAD;
        }
        return shoals.addDredging(shoal, day, bed, now);
    }

    public long depth(int shoal, int t, int k) {
        if (!isShoal(shoal) || !isMoment(t) || !isPast(k) || findings.areSpent()) {
            return NO_REAL;
        }
        if (!shoals.hasDepth(shoal, t, k)) {
            findings.tell(NULL);
            return NO_REAL;
        }
        return bitsOf(shoals.depthAt(shoal, t, k));
    }

    public long water(int shoal, int t) {
        if (!isShoal(shoal) || !isMoment(t) || findings.areSpent()) {
            return NO_REAL;
        }
        if (!shoals.hasDepth(shoal, t, now)) {
            findings.tell(NULL);
            return NO_REAL;
        }
        return bitsOf(shoals.waterAt(shoal, t, now));
    }

    // ---- 4 waters, streams

    public int waters(int station, int from, int n) {
        if (!isStation(station) || !isWithin(n, 3, MOST_STEPS) || !isMoment(from)
                || !isMoment(from + (n - 1) * 60 * tides.steps)) {
            return BAD;
        }
        if (findings.areSpent()) {
            return FULL;
        }
        if (!tides.measure(station, from, n, now)) {
            return findings.tell(NULL);
        }
        return tides.find(station, from, n, now);
    }

    public int found(int station, int i, int what) {
        if (!isStation(station) || !isWithin(what, 0, 1)) {
            return BAD;
        }
        if (!isWithin(i, 0, tides.size[station] - 1)) {
            return NONE;
        }
        int place = station * WATERS + i;
        if (what == 0) {
            return tides.moment[place];
        }
        return tides.isHigh[place] ? 1 : 0;
    }

    public long range(int station, int i) {
        if (!isStation(station) || !isWithin(i, 0, tides.size[station] - 2) || findings.areSpent()) {
            return NO_REAL;
        }
        if (!tides.hasRange(station, i)) {
            findings.tell(LACK);
            return NO_REAL;
        }
        return bitsOf(tides.rangeOf(station, i));
    }

    public int spring(int station, boolean great) {
        return isStation(station) ? tides.furthestRange(station, great) : BAD;
    }

    public int tide(int station, int hour, int v) {
        if (!isStation(station) || !isWithin(hour, -FURTHEST_HOUR, FURTHEST_HOUR)
                || (v & WITHOUT_SIGN) > TWENTY) {
            return BAD;
        }
        tides.stream[station * HOURS + hour + FURTHEST_HOUR] = v;
        return 1;
    }

    public int stream(int station, int t) {
        if (!isStation(station) || !isMoment(t) || findings.areSpent()) {
            return NO_FLOAT;
        }
        int place = tides.streamPlace(station, t);
        if (place < 0) {
            findings.tell(-place);
            return NO_FLOAT;
        }
        return tides.stream[place];
    }

    // ---- 5 ships, fleets

    public int ship(int kind, int draught, int pace, int x, int p, int q) {
        if (!isWithin(kind, DEEP, PAIR) || !isWithin(draught, 0, 3000)
                || !isWithin(pace, 0, 3000) || !isWithin(x, -1000, 1000)) {
            return BAD;
        }
        if (kind != PAIR) {
            return ships.add(kind, draught, pace, x, NONE, NONE);
        }
        if (!isShipOrNothing(p) || !isShipOrNothing(q)) {
            return BAD;
        }
        return ships.add(kind, draught, pace, x, p, q);
    }

    public int ask(int ship, int what) {
        if (!isShip(ship) || !isWithin(what, NEED, BY_DAY)) {
            return BAD;
        }
        if (findings.areSpent()) {
            return FULL;
        }
        ships.traced = 0;
        int answer = ships.askFor(ship, what, 0);
        if (ships.fault != 0) {
            return findings.tell(ships.fault);
        }
        lastAsked = answer;
        return 1;
    }

    public int asked() {
        return lastAsked;
    }

    public int trace(int i) {
        return isWithin(i, 0, ships.traced - 1) ? ships.trace[i] : NONE;
    }

    public int as(int ship, int kind) {
        if (!isShipOrNothing(ship) || !isWithin(kind, DEEP, PAIR)) {
            return BAD;
        }
        if (findings.areSpent()) {
            return FULL;
        }
        // NOTHING may be taken as any KIND: it is only its x that is not there.
        if (ship == NONE) {
            return findings.tell(NULL);
        }
        if (!ships.isOf(ship, kind)) {
            return findings.tell(CAST);
        }
        lastAsked = ships.x[ship];
        return 1;
    }

    public int fleet(int f, int sort, int n) {
        if (!isFleet(f) || !isWithin(sort, DEEP, ALL_KINDS) || n > PLACES) {
            return BAD;
        }
        if (findings.areSpent()) {
            return FULL;
        }
        if (n < 0) {
            return findings.tell(SIZE);
        }
        fleets.make(f, sort, n);
        return 1;
    }

    public int join(int f, int i, int ship) {
        if (!isFleet(f) || !isShipOrNothing(ship)) {
            return BAD;
        }
        if (findings.areSpent()) {
            return FULL;
        }
        int fault = fleets.faultAt(f, i);
        if (fault == 0 && !fleets.takes(f, ship)) {
            fault = STORE;
        }
        if (fault != 0) {
            return findings.tell(fault);
        }
        fleets.place[f * PLACES + i] = ship;
        return 1;
    }

    public int member(int f, int i) {
        if (!isFleet(f)) {
            return BAD;
        }
        if (findings.areSpent()) {
            return FULL;
        }
        int fault = fleets.faultAt(f, i);
        return fault != 0 ? findings.tell(fault) : fleets.place[f * PLACES + i];
    }

    public int move(int f, int i, int other, int j, int n) {
        if (!isFleet(f) || !isFleet(other)) {
            return BAD;
        }
        if (findings.areSpent()) {
            return FULL;
        }
        if (fleets.isNothing(f) || fleets.isNothing(other)) {
            return findings.tell(NULL);
        }
        if (!fleets.hasSpan(f, i, n) || !fleets.hasSpan(other, j, n)) {
            return findings.tell(INDEX);
        }
        return fleets.copy(f * PLACES + i, other, j, n) ? n : findings.tell(STORE);
    }

    public int shared(int f, int cost) {
        if (!isFleet(f) || !isWithin(cost, 0, 1000000)) {
            return BAD;
        }
        if (findings.areSpent()) {
            return FULL;
        }
        if (fleets.isNothing(f)) {
            return findings.tell(NULL);
        }
        int standing = fleets.standing(f);
        if (standing == 0) {
            return findings.tell(ZERO);
        }
        lastAsked = cost / standing;
        return 1;
    }

    // ---- 6 routes, windows, passages

    public int leg(int route, int shoal, int distance, int mark) {
        if (!isRoute(route) || !isShoal(shoal) || !isMark(mark)
                || !isWithin(distance, routes.lastDistance(route), 50000)) {
            return BAD;
        }
        if (passages.useRoute(route)) {
            return NO;
        }
        return routes.add(route, shoal, distance, isNoFloat(mark) ? NO_FLOAT : mark);
    }

    public int clear(int route) {
        if (!isRoute(route)) {
            return BAD;
        }
        if (passages.useRoute(route)) {
            return NO;
        }
        int had = routes.legs[route];
        routes.legs[route] = 0;
        return had;
    }

    public int sun(int rise, int set) {
        if (!isWithin(rise, 0, DAY) || !isWithin(set, 0, DAY)) {
            return BAD;
        }
        voyages.rise = rise;
        voyages.set = set;
        return 1;
    }

    public int comes(int ship, int route, int i, int s) {
        if (!isShip(ship) || !isRoute(route) || !isWithin(i, 0, routes.legs[route] - 1) || !isMoment(s)) {
            return BAD;
        }
        if (findings.areSpent()) {
            return FULL;
        }
        ships.traced = 0;
        int pace = ships.askFor(ship, PACE, 0);
        if (ships.fault != 0) {
            return findings.tell(ships.fault);
        }
        return routes.comingAt(route * LEGS + i, s, pace);
    }

    public int holds(int ship, int route, int minute) {
        if (!isShip(ship) || !isRoute(route) || !isMinute(minute)) {
            return BAD;
        }
        if (findings.areSpent()) {
            return FULL;
        }
        ships.traced = 0;
        return voyages.tryMinute(ship, route, minute, now);
    }

    public int windows(int ship, int route, int a, int n) {
        if (!isShip(ship) || !isRoute(route) || !isWithin(n, 1, MOST_MINUTES)
                || !isMinute(a) || !isMinute(a + n - 1)) {
            return BAD;
        }
        if (findings.areSpent()) {
            return FULL;
        }
        ships.traced = 0;
        kept.begin();
        for (int minute = a; minute < a + n; minute++) {
            kept.take(minute, voyages.tryMinute(ship, route, minute, now));
        }
        return kept.size;
    }

    public int window(int i, boolean last) {
        if (!isWithin(i, 0, kept.size - 1)) {
            return NONE;
        }
        return last ? kept.last[i] : kept.first[i];
    }

    public int wrong(int what) {
        if (!isWithin(what, 0, 1)) {
            return BAD;
        }
        return what == 0 ? kept.wrongMinutes : kept.lastWrong;
    }

    public int passage(int ship, int route, int minute) {
        if (!isShip(ship) || !isRoute(route) || !isMinute(minute)) {
            return BAD;
        }
        return passages.add(ship, route, minute, now);
    }

    public int plan() {
        if (findings.areSpent()) {
            return FULL;
        }
        ships.traced = 0;
        int started = 0;
        for (int turn = 0; turn < PASSAGES; turn++) {
            int next = passages.longestWaiting();
            if (next != NONE && passages.settle(next, now)) {
                started++;
            }
        }
        return started;
    }

    public int planned(int p, int what) {
        if (!isPassage(p) || !isWithin(what, 0, 2)) {
            return BAD;
        }
        if (what == 0) {
            return passages.waits[p] ? 1 : 0;
        }
        return what == 1 ? passages.start[p] : passages.since[p];
    }

    public int again(int p) {
        if (!isPassage(p)) {
            return BAD;
        }
        if (passages.waits[p]) {
            return NO;
        }
        passages.letWait(p, now);
        return 1;
    }

    public int pass(int p) {
        if (!isPassage(p)) {
            return BAD;
        }
        if (findings.areSpent()) {
            return FULL;
        }
        ships.traced = 0;
        int fault = passages.goThrough(p);
        return fault != 0 ? findings.tell(fault) : 1;
    }

    public int tries() {
        return passages.tried;
    }

    public int held(int what) {
        if (!isWithin(what, 0, 1)) {
            return BAD;
        }
        return what == 0 ? passages.holding : passages.mostHolding;
    }

    // ---- 7 status

    public int count(int what) {
        switch (what) {
            case 0:
                return now;
            case 1:
                return surveys.told;
            case 2:
                return gauges.told;
            case 3:
                return shoals.told;
            case 4:
                return shoals.dredgings;
            case 5:
                return ships.told;
            case 6:
                return passages.told;
            case 7:
                return kept.size;
            case 8:
                return findings.ever;
            default:
                return BAD;
        }
    }

    public int finding() {
        return findings.latest;
    }

    public int digest() {
        int h = 7;
        for (int p = 0; p < passages.told; p++) {
            h = 31 * h + passages.start[p];
        }
        return h;
    }

    private static boolean isWithin(int v, int least, int greatest) {
        return v >= least && v <= greatest;
    }

    private static boolean isMoment(int t) {
        return t >= 0 && t < MOMENTS;
    }

    private boolean isPast(int k) {
        return k >= 0 && k <= now;
    }

    private static boolean isDay(int day) {
        return day >= 0 && day < DAYS;
    }

    private static boolean isMinute(int minute) {
        return minute >= 0 && minute < MINUTES;
    }

    private static boolean isStation(int station) {
        return station >= 0 && station < STATIONS;
    }

    private boolean isGauge(int gauge) {
        return gauge >= 0 && gauge < gauges.told;
    }

    private boolean isShoal(int shoal) {
        return shoal >= 0 && shoal < shoals.told;
    }

    private static boolean isBed(int bed) {
        return bed >= -1000 && bed <= 5000;
    }

    private boolean isShip(int ship) {
        return ship >= 0 && ship < ships.told;
    }

    private boolean isShipOrNothing(int ship) {
        return ship >= NONE && ship < ships.told;
    }

    private static boolean isFleet(int f) {
        return f >= 0 && f < FLEETS;
    }

    private static boolean isRoute(int route) {
        return route >= 0 && route < ROUTES;
    }

    private boolean isPassage(int p) {
        return p >= 0 && p < passages.told;
    }

    private static boolean isNoFloat(int bits) {
        return (bits & WITHOUT_SIGN) > ENDLESS;
    }

    /** A MARK is none, or not below 0.0; -0.0 is not below it, though its sign says so. */
    private static boolean isMark(int bits) {
        return bits >= 0 || isNoFloat(bits) || (bits & WITHOUT_SIGN) == 0;
    }

    private static int relationsOf(int a, int b) {
        if (isNoFloat(a) || isNoFloat(b)) {
            return 32;
        }
        int x = orderOf(a);
        int y = orderOf(b);
        if (x < y) {
            return 1 + 2 + 32;
        }
        return x > y ? 4 + 8 + 32 : 2 + 8 + 16;
    }

    /** A whole number that stands among others as the FLOAT of these BITS does; 0 for -0.0, too. */
    private static int orderOf(int bits) {
        return bits >= 0 ? bits : -(bits & WITHOUT_SIGN);
    }

    /**
     * The BITS of a REAL, by arithmetic that is exact, for the library's way is not among what may be used.
     * No REAL of this desk is -0.0, endless, or so small that its leading digit is not told.
     */
    private static long bitsOf(double v) {
        if (v == 0.0) {
            return 0L;
        }
        double rest = v < 0.0 ? -v : v;
        long exponent = 1023;
        for (int i = 0; i < 1023 && rest >= 2.0; i++) {
            rest = rest * 0.5;
            exponent++;
        }
        for (int i = 0; i < 1022 && rest < 1.0; i++) {
            rest = rest * 2.0;
            exponent--;
        }
        long digits = (long) ((rest - 1.0) * 4503599627370496.0);
        long bits = (exponent << 52) + digits;
        return v < 0.0 ? bits | SIGN_OF_REAL : bits;
    }

    /** What the desk found against acts. */
    private static final class Findings {
        private int ever;
        private int latest;

        boolean areSpent() {
            return ever >= FINDINGS_ALLOWED;
        }

        int tell(int kind) {
            ever++;
            latest = kind;
            return -10 - kind;
        }
    }

    /** DRAFTS and SURVEYS of all STATIONS. */
    private static final class Surveys {
        private final int[] draftMean = new int[STATIONS];
        private final int[] draftWaves = new int[STATIONS];
        private final int[] draftRow = new int[STATIONS * WAVE_ROW];
        private final int[] station = new int[SURVEYS];
        private final int[] day = new int[SURVEYS];
        private final int[] since = new int[SURVEYS];
        private final int[] mean = new int[SURVEYS];
        private final int[] waves = new int[SURVEYS];
        private final int[] row = new int[SURVEYS * WAVE_ROW];
        private int told;

        int changeMean(int s, int v) {
            int was = draftMean[s];
            draftMean[s] = v;
            return was;
        }

        int addWave(int s, int size, int speed, int phase) {
            if (draftWaves[s] >= WAVES) {
                return FULL;
            }
            int place = s * WAVE_ROW + draftWaves[s] * WAVE_FIELDS;
            draftRow[place] = size;
            draftRow[place + 1] = speed;
            draftRow[place + 2] = phase;
            draftWaves[s]++;
            return draftWaves[s];
        }

        int takeDraft(int s, int fromDay, int now) {
            if (told >= SURVEYS) {
                return FULL;
            }
            station[told] = s;
            day[told] = fromDay;
            since[told] = now;
            mean[told] = draftMean[s];
            waves[told] = draftWaves[s];
            for (int i = 0; i < WAVE_ROW; i++) {
                row[told * WAVE_ROW + i] = draftRow[s * WAVE_ROW + i];
            }
            draftMean[s] = 0;
            draftWaves[s] = 0;
            told++;
            return told;
        }

        int inForce(int s, int t, int k) {
            int best = NONE;
            for (int i = 0; i < told; i++) {
                boolean counts = station[i] == s && since[i] <= k && day[i] <= t / DAY;
                if (counts && (best == NONE || day[i] >= day[best])) {
                    best = i;
                }
            }
            return best;
        }

        /** The HEIGHT; to be asked for where a SURVEY is in FORCE alone. */
        double heightAt(int s, int t, int k) {
            int survey = inForce(s, t, k);
            if (survey == NONE) {
                return 0.0;
            }
            double h = mean[survey] / 100.0;
            for (int i = 0; i < waves[survey]; i++) {
                int place = survey * WAVE_ROW + i * WAVE_FIELDS;
                long turned = row[place + 2] + (long) row[place + 1] * t / 1000;
                h = h + row[place] / 1000.0 * cosine(turned);
            }
            return h;
        }

        static double cosine(long a) {
            int n = (int) (a & 65535L);
            int m = n > 32768 ? 65536 - n : n;
            int k = m > 16384 ? 32768 - m : m;
            double x = k / 16384.0;
            double y = x * x;
            double c = 1.0 - y * (1.2337005501361697 - y * (0.253669507901048
                    - y * (0.020863480763353 - y * 0.000919260274839426)));
            return m > 16384 ? -c : c;
        }
    }

    /** GAUGES with their READINGS, and the SURGES that come of them. */
    private static final class Gauges {
        private final Surveys surveys;
        private final int[] station = new int[GAUGES];
        private final int[] first = new int[GAUGES];
        private final int[] step = new int[GAUGES];
        private final boolean[] isOut = new boolean[GAUGES];
        private final int[] size = new int[GAUGES];
        private final short[] shorts = new short[GAUGES * READINGS];
        private final int[] airs = new int[GAUGES * READINGS];
        private final double[] gathered = new double[MOST_TAKEN];
        private int told;
        private int take = 5;
        private int fade = 12;
        private int there;
        private int missing;
        private int latest;

        Gauges(Surveys surveys) {
            this.surveys = surveys;
        }

        int add(int s, int firstMoment, int stepSeconds) {
            if (told >= GAUGES) {
                return FULL;
            }
            station[told] = s;
            first[told] = firstMoment;
            step[told] = stepSeconds;
            told++;
            return told - 1;
        }

        int momentOf(int gauge, int i) {
            return first[gauge] + i * step[gauge];
        }

        int addReading(int gauge, int v, int air) {
            int place = gauge * READINGS + size[gauge];
            shorts[place] = (short) v;
            airs[place] = air;
            size[gauge]++;
            return size[gauge];
        }

        int faultAt(int gauge, int i) {
            if (isOut[gauge]) {
                return NULL;
            }
            return i < 0 || i >= size[gauge] ? INDEX : 0;
        }

        int firstOf(int s) {
            for (int g = 0; g < told; g++) {
                if (station[g] == s) {
                    return g;
                }
            }
            return NONE;
        }

        /** Looks at the READINGS that a SURGE at t is made of: how many are there. */
        int gather(int gauge, int t, int now) {
            int end = 0;
            while (end < size[gauge] && momentOf(gauge, end) <= t) {
                end++;
            }
            there = 0;
            missing = 0;
            for (int i = end > take ? end - take : 0; i < end; i++) {
                int moment = momentOf(gauge, i);
                int v = shorts[gauge * READINGS + i];
                if (v == NO_SHORT || surveys.inForce(station[gauge], moment, now) == NONE) {
                    missing++;
                } else {
                    keepBySize(v / 100.0 - surveys.heightAt(station[gauge], moment, now));
                    latest = moment;
                }
            }
            return there;
        }

        private void keepBySize(double v) {
            int place = there;
            while (place > 0 && gathered[place - 1] > v) {
                gathered[place] = gathered[place - 1];
                place--;
            }
            gathered[place] = v;
            there++;
        }

        /** The SURGE at t of what was gathered; to be asked for where some were there alone. */
        double fadedMiddle(int t) {
            int age = t - latest;
            int whole = fade * 3600;
            if (there < 1 || age >= whole) {
                return 0.0;
            }
            return gathered[(there - 1) / 2] * ((whole - age) / (fade * 3600.0));
        }
    }

    /** SHOALS and their BEDS. */
    private static final class Shoals {
        private final Surveys surveys;
        private final Gauges gauges;
        private final int[] station = new int[SHOALS];
        private final int[] lock = new int[SHOALS];
        private final int[] bedShoal = new int[BEDS];
        private final int[] bedDay = new int[BEDS];
        private final int[] bedSince = new int[BEDS];
        private final int[] bed = new int[BEDS];
        private int told;
        private int dredgings;

        Shoals(Surveys surveys, Gauges gauges) {
            this.surveys = surveys;
            this.gauges = gauges;
        }

        int add(int s, int firstBed, int lockSeconds, int now) {
            if (told >= SHOALS) {
                return FULL;
            }
            station[told] = s;
            lock[told] = lockSeconds;
            addBed(told, 0, firstBed, now);
            told++;
            return told - 1;
        }

        int addDredging(int shoal, int day, int newBed, int now) {
            if (dredgings >= DREDGINGS) {
                return FULL;
            }
            addBed(shoal, day, newBed, now);
            dredgings++;
            return dredgings;
        }

        private void addBed(int shoal, int day, int newBed, int now) {
            int place = told + dredgings;
            bedShoal[place] = shoal;
            bedDay[place] = day;
            bedSince[place] = now;
            bed[place] = newBed;
        }

        private int bedInForce(int shoal, int t, int k) {
            int best = NONE;
            for (int i = 0; i < told + dredgings; i++) {
                boolean counts = bedShoal[i] == shoal && bedSince[i] <= k && bedDay[i] <= t / DAY;
                if (counts && (best == NONE || bedDay[i] >= bedDay[best])) {
                    best = i;
                }
            }
            return best;
        }

        boolean hasDepth(int shoal, int t, int k) {
            return bedInForce(shoal, t, k) != NONE && surveys.inForce(station[shoal], t, k) != NONE;
        }

        /** The DEPTH; to be asked for where hasDepth() alone. */
        double depthAt(int shoal, int t, int k) {
            int place = bedInForce(shoal, t, k);
            if (place == NONE) {
                return 0.0;
            }
            return bed[place] / 100.0 + surveys.heightAt(station[shoal], t, k);
        }

        /** The WATER; to be asked for where hasDepth() as KNOWN now alone. */
        double waterAt(int shoal, int t, int now) {
            double h = depthAt(shoal, t, now);
            int gauge = gauges.firstOf(station[shoal]);
            if (gauge != NONE && !gauges.isOut[gauge] && gauges.gather(gauge, t, now) > 0) {
                h = h + gauges.fadedMiddle(t);
            }
            return h;
        }
    }

    /** WATERS of all STATIONS, as found latest, and their rows of STREAMS. */
    private static final class Waters {
        private final Surveys surveys;
        private final int[] size = new int[STATIONS];
        private final int[] moment = new int[STATIONS * WATERS];
        private final boolean[] isHigh = new boolean[STATIONS * WATERS];
        private final double[] height = new double[STATIONS * WATERS];
        private final double[] measured = new double[MOST_STEPS];
        private final int[] stream = new int[STATIONS * HOURS];
        private int steps = 10;

        Waters(Surveys surveys) {
            this.surveys = surveys;
        }

        /** Takes the HEIGHTS at all steps: whether each has one. */
        boolean measure(int s, int from, int n, int now) {
            for (int i = 0; i < n; i++) {
                int t = from + i * 60 * steps;
                if (surveys.inForce(s, t, now) == NONE) {
                    return false;
                }
                measured[i] = surveys.heightAt(s, t, now);
            }
            return true;
        }

        /** Finds WATERS in what was measured: how many are kept. */
        int find(int s, int from, int n, int now) {
            size[s] = 0;
            for (int i = 1; i < n - 1 && size[s] < WATERS; i++) {
                double before = measured[i - 1];
                double here = measured[i];
                double behind = measured[i + 1];
                boolean high = here > before && here >= behind;
                boolean low = here < before && here <= behind;
                if (high || low) {
                    keep(s, halve(s, from + (i - 1) * 60 * steps, high, now), high, now);
                }
            }
            return size[s];
        }

        private void keep(int s, int t, boolean high, int now) {
            int place = s * WATERS + size[s];
            moment[place] = t;
            isHigh[place] = high;
            height[place] = surveys.heightAt(s, t, now);
            size[s]++;
        }

        private int halve(int s, int from, boolean high, int now) {
            int low = from;
            int top = from + 2 * 60 * steps;
            for (int i = 0; i < 32 && top - low > 1; i++) {
                int m = (low + top) / 2;
                double here = surveys.heightAt(s, m, now);
                double next = surveys.heightAt(s, m + 1, now);
                if (high ? next > here : next < here) {
                    low = m;
                } else {
                    top = m;
                }
            }
            return top;
        }

        boolean hasRange(int s, int i) {
            return isHigh[s * WATERS + i] != isHigh[s * WATERS + i + 1];
        }

        double rangeOf(int s, int i) {
            double a = height[s * WATERS + i];
            double b = height[s * WATERS + i + 1];
            return a >= b ? a - b : b - a;
        }

        int furthestRange(int s, boolean great) {
            int best = NONE;
            double bestRange = 0.0;
            for (int i = 0; i < size[s] - 1; i++) {
                if (hasRange(s, i)) {
                    double r = rangeOf(s, i);
                    if (best == NONE || (great ? r > bestRange : r < bestRange)) {
                        best = i;
                        bestRange = r;
                    }
                }
            }
            return best;
        }

        /** Where the STREAM at t stands in the rows, or the FINDING below 0. */
        int streamPlace(int s, int t) {
            int nearest = nearestHigh(s, t);
            if (nearest == NONE) {
                return -LACK;
            }
            int hour = Math.floorDiv(t - moment[nearest] + 1800, 3600);
            if (hour < -FURTHEST_HOUR || hour > FURTHEST_HOUR) {
                return -INDEX;
            }
            return s * HOURS + hour + FURTHEST_HOUR;
        }

        private int nearestHigh(int s, int t) {
            int best = NONE;
            int least = MOMENTS;
            for (int i = s * WATERS; i < s * WATERS + size[s]; i++) {
                int far = Math.abs(t - moment[i]);
                if (isHigh[i] && far < least) {
                    best = i;
                    least = far;
                }
            }
            return best;
        }
    }

    /** SHIPS, what they are asked, and THE TRACE of the BODIES that begin. */
    private static final class Ships {
        private final int[] kind = new int[SHIPS];
        private final int[] draught = new int[SHIPS];
        private final int[] pace = new int[SHIPS];
        private final int[] x = new int[SHIPS];
        private final int[] onePart = new int[SHIPS];
        private final int[] otherPart = new int[SHIPS];
        private final int[] pairsDeep = new int[SHIPS];
        private final int[] trace = new int[TRACED];
        private int traced;
        private int told;
        private int fault;

        int add(int itsKind, int itsDraught, int itsPace, int itsX, int one, int other) {
            int deep = itsKind == PAIR ? 1 + Math.max(deepOf(one), deepOf(other)) : 0;
            if (deep > PAIRS_DEEP) {
                return NO;
            }
            if (told >= SHIPS) {
                return FULL;
            }
            kind[told] = itsKind;
            draught[told] = itsDraught;
            pace[told] = itsPace;
            x[told] = itsX;
            onePart[told] = one;
            otherPart[told] = other;
            pairsDeep[told] = deep;
            told++;
            return told - 1;
        }

        private int deepOf(int ship) {
            return ship == NONE ? 0 : pairsDeep[ship];
        }

        boolean isOf(int ship, int aKind) {
            return kind[ship] == aKind || kind[ship] == TOW && aKind == DEEP
                    || kind[ship] == FERRY && aKind == LIGHT;
        }

        /**
         * What a SHIP answers that stands deep within PAIRS (0: that is asked itself); fault is the FINDING
         * that stopped it, or 0.
         */
        int askFor(int ship, int what, int deep) {
            if (deep == 0) {
                fault = 0;
            }
            if (ship == NONE || deep > PAIRS_DEEP) {
                fault = NULL;
                return 0;
            }
            if (kind[ship] == PAIR && what != KEEL) {
                return pairAnswer(ship, what, deep);
            }
            switch (what) {
                case NEED:
                    return needOf(ship);
                case KEEL:
                    return keelOf(ship);
                case PACE:
                    return paceOf(ship);
                case PATIENCE:
                    return patienceOf(ship);
                default:
                    begin(kind[ship] == TOW ? 51 : 50);
                    return kind[ship] == TOW ? 1 : 0;
            }
        }

        private int pairAnswer(int ship, int what, int deep) {
            begin(pairBody(what));
            int one = askFor(onePart[ship], what, deep + 1);
            if (fault != 0 || what == BY_DAY && one == 1) {
                return one;
            }
            int other = askFor(otherPart[ship], what, deep + 1);
            switch (what) {
                case NEED:
                    return Math.max(one, other);
                case PACE:
                    return Math.min(one, other);
                case PATIENCE:
                    return (one + other) / 2;
                default:
                    return other;
            }
        }

        private static int pairBody(int what) {
            switch (what) {
                case NEED:
                    return 12;
                case PACE:
                    return 32;
                case PATIENCE:
                    return 43;
                default:
                    return 52;
            }
        }

        private int needOf(int ship) {
            boolean isDeep = isOf(ship, DEEP);
            if (isDeep) {
                begin(11);
            }
            begin(10);
            int need = draught[ship] + keelOf(ship);
            return isDeep ? need + draught[ship] / 10 : need;
        }

        private int keelOf(int ship) {
            switch (kind[ship]) {
                case DEEP:
                    begin(21);
                    return 100;
                case TOW:
                    begin(22);
                    begin(21);
                    return 100 + x[ship];
                case FERRY:
                    begin(23);
                    begin(20);
                    return 2 * 30;
                default:
                    begin(20);
                    return 30;
            }
        }

        private int paceOf(int ship) {
            if (kind[ship] != TOW) {
                begin(30);
                return pace[ship];
            }
            begin(31);
            begin(30);
            if (x[ship] == 0) {
                fault = ZERO;
                return 0;
            }
            return pace[ship] / x[ship];
        }

        private int patienceOf(int ship) {
            switch (kind[ship]) {
                case LIGHT:
                    begin(41);
                    return 30;
                case FERRY:
                    begin(42);
                    begin(41);
                    return 30 - x[ship];
                default:
                    begin(40);
                    return 60;
            }
        }

        private void begin(int body) {
            if (traced < TRACED) {
                trace[traced] = body;
                traced++;
            }
        }
    }

    /** FLEETS: rows of places that take SHIPS of a SORT. */
    private static final class Fleets {
        private final Ships ships;
        private final boolean[] stands = new boolean[FLEETS];
        private final int[] sort = new int[FLEETS];
        private final int[] size = new int[FLEETS];
        private final int[] place = new int[FLEETS * PLACES];
        private final int[] carried = new int[PLACES];

        Fleets(Ships ships) {
            this.ships = ships;
        }

        boolean isNothing(int f) {
            return !stands[f];
        }

        void make(int f, int itsSort, int n) {
            stands[f] = true;
            sort[f] = itsSort;
            size[f] = n;
            for (int i = 0; i < n; i++) {
                place[f * PLACES + i] = NONE;
            }
        }

        int faultAt(int f, int i) {
            if (!stands[f]) {
                return NULL;
            }
            return i < 0 || i >= size[f] ? INDEX : 0;
        }

        boolean takes(int f, int ship) {
            return ship == NONE || sort[f] == ALL_KINDS || ships.isOf(ship, sort[f]);
        }

        boolean hasSpan(int f, int i, int n) {
            // Written so that no sum of great numbers wraps.
            return i >= 0 && n >= 0 && i <= size[f] && n <= size[f] - i;
        }

        /** Whether all n have come; those ahead of the first that does not go have, in any case. */
        boolean copy(int from, int other, int j, int n) {
            for (int i = 0; i < n; i++) {
                carried[i] = place[from + i];
            }
            for (int i = 0; i < n; i++) {
                if (!takes(other, carried[i])) {
                    return false;
                }
                place[other * PLACES + j + i] = carried[i];
            }
            return true;
        }

        int standing(int f) {
            int many = 0;
            for (int i = 0; i < size[f]; i++) {
                if (place[f * PLACES + i] != NONE) {
                    many++;
                }
            }
            return many;
        }
    }

    /** ROUTES and their LEGS. */
    private static final class Routes {
        private final int[] legs = new int[ROUTES];
        private final int[] shoal = new int[ROUTES * LEGS];
        private final int[] distance = new int[ROUTES * LEGS];
        private final int[] mark = new int[ROUTES * LEGS];

        int lastDistance(int route) {
            return legs[route] == 0 ? 0 : distance[route * LEGS + legs[route] - 1];
        }

        int add(int route, int itsShoal, int itsDistance, int itsMark) {
            if (legs[route] >= LEGS) {
                return FULL;
            }
            int place = route * LEGS + legs[route];
            shoal[place] = itsShoal;
            distance[place] = itsDistance;
            mark[place] = itsMark;
            legs[route]++;
            return legs[route];
        }

        /** The MOMENT at which a SHIP comes to a LEG, or NO. */
        int comingAt(int place, int s, int pace) {
            if (pace < 1) {
                return NO;
            }
            int u = s + distance[place] * 100 / pace;
            return u < MOMENTS ? u : NO;
        }
    }

    /** Whether minutes hold: SHIPS on ROUTES over SHOALS. */
    private static final class Voyages {
        private final Findings findings;
        private final Ships ships;
        private final Routes routes;
        private final Shoals shoals;
        private final Waters tides;
        private final int[] coming = new int[LEGS];
        private int rise = 21600;
        private int set = 64800;
        private int need;
        private int pace;
        private boolean byDay;

        Voyages(Findings findings, Ships ships, Routes routes, Shoals shoals, Waters tides) {
            this.findings = findings;
            this.ships = ships;
            this.routes = routes;
            this.shoals = shoals;
            this.tides = tides;
        }

        /** 1 or 0, whether the minute holds; NO; or the answer of the FINDING that it had. */
        int tryMinute(int ship, int route, int minute, int now) {
            need = ships.askFor(ship, NEED, 0);
            if (ships.fault == 0) {
                pace = ships.askFor(ship, PACE, 0);
            }
            if (ships.fault == 0) {
                byDay = ships.askFor(ship, BY_DAY, 0) == 1;
            }
            if (ships.fault != 0) {
                return findings.tell(ships.fault);
            }
            if (pace < 1) {
                return NO;
            }
            for (int i = 0; i < routes.legs[route]; i++) {
                int u = routes.comingAt(route * LEGS + i, 60 * minute, pace);
                if (u == NO) {
                    return NO;
                }
                coming[i] = u;
                int answer = tryLeg(route * LEGS + i, u, now);
                if (answer != 1) {
                    return answer;
                }
            }
            return 1;
        }

        private int tryLeg(int place, int u, int now) {
            if (byDay && (u % DAY < rise || u % DAY >= set)) {
                return 0;
            }
            int shoal = routes.shoal[place];
            if (!shoals.hasDepth(shoal, u, now)) {
                return findings.tell(NULL);
            }
            if (shoals.waterAt(shoal, u, now) < need / 100.0) {
                return 0;
            }
            if (routes.mark[place] == NO_FLOAT) {
                return 1;
            }
            int at = tides.streamPlace(shoals.station[shoal], u);
            if (at < 0) {
                return findings.tell(-at);
            }
            return (tides.stream[at] & WITHOUT_SIGN) < (routes.mark[place] & WITHOUT_SIGN) ? 1 : 0;
        }
    }

    /** WINDOWS, as found latest. */
    private static final class Windows {
        private final int[] first = new int[WINDOWS];
        private final int[] last = new int[WINDOWS];
        private int size;
        private int wrongMinutes;
        private int lastWrong;
        private boolean isOpen;

        void begin() {
            size = 0;
            wrongMinutes = 0;
            lastWrong = 0;
            isOpen = false;
        }

        /** Takes what the next minute answered. */
        void take(int minute, int answer) {
            if (answer < -10) {
                wrongMinutes++;
                lastWrong = -10 - answer;
            }
            if (answer != 1) {
                isOpen = false;
            } else if (isOpen) {
                last[size - 1] = minute;
            } else if (size < WINDOWS) {
                first[size] = minute;
                last[size] = minute;
                size++;
                isOpen = true;
            }
        }
    }

    /** PASSAGES: those that WAIT, those that are PLANNED, and what one HOLDS as it PASSES. */
    private static final class Passages {
        private final Findings findings;
        private final Ships ships;
        private final Routes routes;
        private final Shoals shoals;
        private final Voyages voyages;
        private final int[] ship = new int[PASSAGES];
        private final int[] route = new int[PASSAGES];
        private final int[] minute = new int[PASSAGES];
        private final int[] since = new int[PASSAGES];
        private final int[] start = new int[PASSAGES];
        private final boolean[] waits = new boolean[PASSAGES];
        private final int[] coming = new int[PASSAGES * LEGS];
        private final boolean[] isHeld = new boolean[SHOALS];
        private int told;
        private int tried;
        private int holding;
        private int mostHolding;

        Passages(Findings findings, Ships ships, Routes routes, Shoals shoals, Voyages voyages) {
            this.findings = findings;
            this.ships = ships;
            this.routes = routes;
            this.shoals = shoals;
            this.voyages = voyages;
        }

        int add(int itsShip, int itsRoute, int itsMinute, int now) {
            if (told >= PASSAGES) {
                return FULL;
            }
            ship[told] = itsShip;
            route[told] = itsRoute;
            minute[told] = itsMinute;
            letWait(told, now);
            told++;
            return told - 1;
        }

        void letWait(int p, int now) {
            waits[p] = true;
            since[p] = now;
            start[p] = NONE;
        }

        boolean useRoute(int r) {
            for (int p = 0; p < told; p++) {
                if (route[p] == r && start[p] != NONE) {
                    return true;
                }
            }
            return false;
        }

        int longestWaiting() {
            int best = NONE;
            for (int p = 0; p < told; p++) {
                if (waits[p] && (best == NONE || since[p] < since[best])) {
                    best = p;
                }
            }
            return best;
        }

        /** Plans one that WAITS: whether it has a start now. */
        boolean settle(int p, int now) {
            waits[p] = false;
            int patience = ships.askFor(ship[p], PATIENCE, 0);
            if (ships.fault != 0) {
                findings.tell(ships.fault);
                return false;
            }
            int end = Math.min(MINUTES, minute[p] + Math.min(MOST_MINUTES, patience));
            for (int m = minute[p]; m < end; m++) {
                int answer = voyages.tryMinute(ship[p], route[p], m, now);
                if (answer < -10) {
                    return false;
                }
                if (answer == 1 && !meetsAny(route[p])) {
                    start[p] = m;
                    keepComing(p);
                    return true;
                }
            }
            return false;
        }

        private void keepComing(int p) {
            for (int i = 0; i < LEGS; i++) {
                coming[p * LEGS + i] = voyages.coming[i];
            }
        }

        /** Whether the voyage tried latest, on ROUTE r, is together with one that has a start. */
        private boolean meetsAny(int r) {
            for (int p = 0; p < told; p++) {
                if (start[p] != NONE && meets(r, p)) {
                    return true;
                }
            }
            return false;
        }

        private boolean meets(int r, int p) {
            for (int i = 0; i < routes.legs[r]; i++) {
                for (int j = 0; j < routes.legs[route[p]]; j++) {
                    if (meetInLock(r, i, p, j)) {
                        return true;
                    }
                    if (i + 1 < routes.legs[r] && j + 1 < routes.legs[route[p]] && meetInReach(r, i, p, j)) {
                        return true;
                    }
                }
            }
            return false;
        }

        private boolean meetInLock(int r, int i, int p, int j) {
            int shoal = routes.shoal[r * LEGS + i];
            int lock = shoals.lock[shoal];
            if (lock == 0 || shoal != routes.shoal[route[p] * LEGS + j]) {
                return false;
            }
            int mine = voyages.coming[i];
            int theirs = coming[p * LEGS + j];
            return mine < theirs + lock && theirs < mine + lock;
        }

        private boolean meetInReach(int r, int i, int p, int j) {
            int from = routes.shoal[r * LEGS + i];
            int to = routes.shoal[r * LEGS + i + 1];
            int theirFrom = routes.shoal[route[p] * LEGS + j];
            int theirTo = routes.shoal[route[p] * LEGS + j + 1];
            boolean same = from == theirFrom && to == theirTo || from == theirTo && to == theirFrom;
            return same && voyages.coming[i] < coming[p * LEGS + j + 1]
                    && coming[p * LEGS + j] < voyages.coming[i + 1];
        }

        /** Lets one PASS: the FINDING that stopped it, or 0. */
        int goThrough(int p) {
            tried++;
            mostHolding = 0;
            ships.askFor(ship[p], NEED, 0);
            if (ships.fault != 0) {
                return ships.fault;
            }
            int fault = holdLocks(route[p]) ? askAtLast(ship[p]) : HELD;
            freeAll();
            return fault;
        }

        private boolean holdLocks(int r) {
            for (int i = 0; i < routes.legs[r]; i++) {
                int shoal = routes.shoal[r * LEGS + i];
                if (shoals.lock[shoal] != 0) {
                    if (isHeld[shoal]) {
                        return false;
                    }
                    isHeld[shoal] = true;
                    holding++;
                    mostHolding = holding;
                }
            }
            return true;
        }

        private int askAtLast(int s) {
            ships.askFor(s, PACE, 0);
            if (ships.fault == 0) {
                ships.askFor(s, PATIENCE, 0);
            }
            return ships.fault;
        }

        private void freeAll() {
            for (int i = 0; i < SHOALS; i++) {
                isHeld[i] = false;
            }
            holding = 0;
        }
    }
}
