import java.util.ArrayList;
import java.util.Arrays;
import java.util.List;
import java.util.function.IntSupplier;
import java.util.function.Supplier;

/**
 * The document told a second time, in the way that TideDesk may not take: with lists, overridden methods, typed
 * rows and what the machine throws. ModelRunsTest holds the two against each other.
 */
public final class Model {
    private static final int NONE = -1, BAD = -2, NO = -3, FULL = -4;
    private static final int LAST = 2591999, DAY = 86400;
    private static final long NO_REAL = Double.doubleToLongBits(Double.NaN);
    private static final int NO_FLOAT = Float.floatToIntBits(Float.NaN);

    private static final class Lack extends RuntimeException {
        private static final long serialVersionUID = 1;
    }

    private static final class AlreadyHeld extends RuntimeException {
        private static final long serialVersionUID = 1;
    }

    private static final class Never extends RuntimeException {
        private static final long serialVersionUID = 1;
    }

    private record Wave(int size, int speed, int phase) { }

    private record Survey(int station, int day, int known, int mean, List<Wave> waves) { }

    private record Bed(int day, int known, int bed) { }

    private record Water(int moment, boolean high, double height) { }

    private record Leg(Shoal shoal, int distance, float mark) { }

    private record Stay(int from, int to) {
        boolean meets(Stay other) {
            return from < other.to && other.from < to;
        }
    }

    private static final class Gauge {
        int station;
        int first;
        int step;
        short[] shorts = new short[0];
        float[] airs = new float[0];
        short[] shortsAway;
        float[] airsAway;

        int many() {
            return shorts != null ? shorts.length : shortsAway.length;
        }
    }

    private static final class Shoal {
        int station;
        int lock;
        boolean isHeld;
        List<Bed> beds = new ArrayList<>();
    }

    private final class Passage {
        Ship ship;
        int route;
        int minute;
        int since;
        boolean waits;
        int start;
        List<Leg> legs = new ArrayList<>();
        int[] coming;
    }

    private interface Waits {
        Model desk();

        default int patience() {
            desk().begins(40);
            return 60;
        }
    }

    private interface Tells {
        Model desk();

        default boolean byDay() {
            desk().begins(50);
            return false;
        }
    }

    private abstract class Ship implements Waits, Tells {
        int draught;
        int pace;
        int x;
        int deep;

        @Override
        public Model desk() {
            return Model.this;
        }

        int need() {
            begins(10);
            return draught + keel();
        }

        int keel() {
            begins(20);
            return 30;
        }

        int pace() {
            begins(30);
            return pace;
        }
    }

    private class Deep extends Ship {
        @Override
        int need() {
            begins(11);
            return super.need() + draught / 10;
        }

        @Override
        int keel() {
            begins(21);
            return 100;
        }
    }

    private class Light extends Ship {
        @Override
        public int patience() {
            begins(41);
            return 30;
        }
    }

    private final class Tow extends Deep {
        @Override
        int keel() {
            begins(22);
            return super.keel() + x;
        }

        @Override
        int pace() {
            begins(31);
            return super.pace() / x;
        }

        @Override
        public boolean byDay() {
            begins(51);
            return true;
        }
    }

    private final class Ferry extends Light {
        @Override
        int keel() {
            begins(23);
            return 2 * super.keel();
        }

        @Override
        public int patience() {
            begins(42);
            return super.patience() - x;
        }
    }

    private final class Pair extends Ship {
        Ship one;
        Ship other;

        @Override
        int need() {
            begins(12);
            int a = one.need();
            return Math.max(a, other.need());
        }

        @Override
        int pace() {
            begins(32);
            int a = one.pace();
            return Math.min(a, other.pace());
        }

        @Override
        public int patience() {
            begins(43);
            int a = one.patience();
            return (a + other.patience()) / 2;
        }

        @Override
        public boolean byDay() {
            begins(52);
            return one.byDay() || other.byDay();
        }
    }

    private int now;
    private final int[] means = new int[12];
    private final List<List<Wave>> drafts = new ArrayList<>();
    private final List<Survey> surveys = new ArrayList<>();
    private final List<Gauge> gauges = new ArrayList<>();
    private final int[] rules = {5, 12, 10};
    private int lacking;
    private int seenLacking;
    private final List<Shoal> shoals = new ArrayList<>();
    private int dredgings;
    private final List<List<Water>> waters = new ArrayList<>();
    private final float[][] streams = new float[12][13];
    private final List<Ship> ships = new ArrayList<>();
    private int asked;
    private List<Integer> trace = new ArrayList<>();
    private final Ship[][] fleets = new Ship[4][];
    private final List<List<Leg>> routes = new ArrayList<>();
    private int rise = 21600;
    private int set = 64800;
    private List<int[]> windows = new ArrayList<>();
    private int wrongs;
    private int lastWrong;
    private final List<Passage> passages = new ArrayList<>();
    private int tries;
    private int held;
    private int mostHeld;
    private int findings;
    private int finding;

    public Model() {
        for (int i = 0; i < 12; i++) {
            drafts.add(new ArrayList<>());
            waters.add(new ArrayList<>());
        }
        for (int i = 0; i < 6; i++) {
            routes.add(new ArrayList<>());
        }
    }

    private void begins(int body) {
        if (trace.size() < 100) {
            trace.add(body);
        }
    }

    private int findingOf(RuntimeException e) {
        int kind = 0;
        if (e instanceof NullPointerException) {
            kind = 1;
        } else if (e instanceof IndexOutOfBoundsException) {
            kind = 2;
        } else if (e instanceof ClassCastException) {
            kind = 3;
        } else if (e instanceof ArithmeticException) {
            kind = 4;
        } else if (e instanceof NegativeArraySizeException) {
            kind = 5;
        } else if (e instanceof ArrayStoreException) {
            kind = 6;
        } else if (e instanceof Lack) {
            kind = 7;
        } else if (e instanceof AlreadyHeld) {
            kind = 8;
        } else {
            throw e;
        }
        findings++;
        finding = kind;
        return kind;
    }

    private boolean spent() {
        return findings >= 3000;
    }

    private int whole(IntSupplier act) {
        if (spent()) {
            return FULL;
        }
        try {
            return act.getAsInt();
        } catch (Never e) {
            return NO;
        } catch (RuntimeException e) {
            return -10 - findingOf(e);
        }
    }

    private long real(Supplier<Double> act) {
        if (spent()) {
            return NO_REAL;
        }
        try {
            return Double.doubleToLongBits(act.get());
        } catch (RuntimeException e) {
            findingOf(e);
            return NO_REAL;
        }
    }

    private int single(Supplier<Float> act) {
        if (spent()) {
            return NO_FLOAT;
        }
        try {
            return Float.floatToIntBits(act.get());
        } catch (RuntimeException e) {
            findingOf(e);
            return NO_FLOAT;
        }
    }

    private static boolean out(int v, int least, int most) {
        return v < least || v > most;
    }

    private static boolean noMoment(int t) {
        return out(t, 0, LAST);
    }

    public int clock(int t) {
        if (out(t, now, LAST)) {
            return BAD;
        }
        now = t;
        return 1;
    }

    public int mean(int station, int v) {
        if (out(station, 0, 11) || out(v, -2000, 2000)) {
            return -100000;
        }
        int was = means[station];
        means[station] = v;
        return was;
    }

    public int wave(int station, int size, int speed, int phase) {
        if (out(station, 0, 11) || out(size, 0, 9999) || out(speed, 0, 60000) || out(phase, 0, 65535)) {
            return BAD;
        }
        if (drafts.get(station).size() == 8) {
            return FULL;
        }
        drafts.get(station).add(new Wave(size, speed, phase));
        return drafts.get(station).size();
    }

    public int survey(int station, int day) {
        if (out(station, 0, 11) || out(day, 0, 29)) {
            return BAD;
        }
        if (surveys.size() == 60) {
            return FULL;
        }
        surveys.add(new Survey(station, day, now, means[station], drafts.get(station)));
        drafts.set(station, new ArrayList<>());
        means[station] = 0;
        return surveys.size();
    }

    private static double cosine(long a) {
        int n = (int) Math.floorMod(a, 65536L);
        int m = n;
        if (n > 32768) {
            m = 65536 - n;
        }
        int k = m;
        if (m > 16384) {
            k = 32768 - m;
        }
        double x = k / 16384.0;
        double y = x * x;
        double c = 1.0 - y * (1.2337005501361697 - y * (0.253669507901048 - y * (0.020863480763353
            - y * 0.000919260274839426)));
        if (m > 16384) {
            c = -c;
        }
        return c;
    }

    public long cos(int a) {
        return Double.doubleToLongBits(cosine(a));
    }

    private Survey inForce(int station, int t, int k) {
        Survey best = null;
        for (int day = 0; day <= t / DAY; day++) {
            for (Survey s : surveys) {
                if (s.station == station && s.day == day && s.known <= k) {
                    best = s;
                }
            }
        }
        return best;
    }

    private double heightOf(int station, int t, int k) {
        Survey s = inForce(station, t, k);
        double h = s.mean / 100.0;
        for (Wave w : s.waves) {
            h = h + w.size / 1000.0 * cosine(w.phase + (long) w.speed * (long) t / 1000L);
        }
        return h;
    }

    public long height(int station, int t, int k) {
        if (out(station, 0, 11) || noMoment(t) || out(k, 0, now)) {
            return NO_REAL;
        }
        return real(() -> heightOf(station, t, k));
    }

    public int force(int station, int t, int k) {
        if (out(station, 0, 11) || noMoment(t) || out(k, 0, now)) {
            return BAD;
        }
        return whole(() -> inForce(station, t, k).day);
    }

    public int gauge(int station, int first, int step) {
        if (out(station, 0, 11) || noMoment(first) || out(step, 60, 7200)) {
            return BAD;
        }
        if (gauges.size() == 10) {
            return FULL;
        }
        Gauge g = new Gauge();
        g.station = station;
        g.first = first;
        g.step = step;
        gauges.add(g);
        return gauges.size() - 1;
    }

    private boolean noGauge(int gauge) {
        return out(gauge, 0, gauges.size() - 1);
    }

    public int reading(int gauge, int v, int air) {
        if (noGauge(gauge) || out(v, -32768, 32767)) {
            return BAD;
        }
        Gauge g = gauges.get(gauge);
        int many = g.many();
        if (g.first + many * g.step > now) {
            return NO;
        }
        if (many == 120) {
            return FULL;
        }
        return whole(() -> {
            g.shorts = Arrays.copyOf(g.shorts, g.shorts.length + 1);
            g.airs = Arrays.copyOf(g.airs, g.airs.length + 1);
            g.shorts[many] = (short) v;
            g.airs[many] = Float.intBitsToFloat(air);
            return many + 1;
        });
    }

    public int out(int gauge, boolean is) {
        if (noGauge(gauge)) {
            return BAD;
        }
        Gauge g = gauges.get(gauge);
        if ((g.shorts == null) == is) {
            return 0;
        }
        short[] shorts = g.shorts;
        float[] airs = g.airs;
        g.shorts = g.shortsAway;
        g.airs = g.airsAway;
        g.shortsAway = shorts;
        g.airsAway = airs;
        return 1;
    }

    public int at(int gauge, int i) {
        if (noGauge(gauge) || spent()) {
            return -100000;
        }
        try {
            return gauges.get(gauge).shorts[i];
        } catch (RuntimeException e) {
            return -100000 - findingOf(e);
        }
    }

    public int air(int gauge, int i) {
        if (noGauge(gauge)) {
            return NO_FLOAT;
        }
        return single(() -> gauges.get(gauge).airs[i]);
    }

    public int compare(int gauge, int i, int j) {
        if (noGauge(gauge)) {
            return BAD;
        }
        return whole(() -> {
            float a = gauges.get(gauge).airs[i];
            float b = gauges.get(gauge).airs[j];
            return (a < b ? 1 : 0) + (a <= b ? 2 : 0) + (a > b ? 4 : 0) + (a >= b ? 8 : 0) + (a == b ? 16 : 0)
                + (a != b ? 32 : 0);
        });
    }

    public int rule(int what, int v) {
        if (out(what, 0, 2) || out(v, 1, new int[] {9, 48, 60}[what])) {
            return BAD;
        }
        int was = rules[what];
        rules[what] = v;
        return was;
    }

    private double surgeOf(Gauge g, int t) {
        int end = 0;
        for (int i = 0; i < g.shorts.length; i++) {
            if (g.first + i * g.step <= t) {
                end = i + 1;
            }
        }
        List<Double> there = new ArrayList<>();
        int last = 0;
        seenLacking = 0;
        for (int i = Math.max(0, end - rules[0]); i < end; i++) {
            int moment = g.first + i * g.step;
            if (g.shorts[i] != -32768 && inForce(g.station, moment, now) != null) {
                there.add(g.shorts[i] / 100.0 - heightOf(g.station, moment, now));
                last = moment;
            } else {
                seenLacking++;
            }
        }
        if (there.isEmpty()) {
            throw new Lack();
        }
        there.sort(null);
        double middle = there.get((there.size() - 1) / 2);
        int age = t - last;
        int fade = rules[1];
        return age >= fade * 3600 ? 0.0 : middle * ((fade * 3600 - age) / (fade * 3600.0));
    }

    public long surge(int gauge, int t) {
        if (noGauge(gauge) || noMoment(t)) {
            return NO_REAL;
        }
        return real(() -> {
            Gauge g = gauges.get(gauge);
            if (g.shorts == null) {
                throw new NullPointerException();
            }
            try {
                return surgeOf(g, t);
            } finally {
                lacking = seenLacking;
            }
        });
    }

    public int lacking() {
        return lacking;
    }

    public int shoal(int station, int bed, int lock) {
        if (out(station, 0, 11) || out(bed, -1000, 5000) || out(lock, 0, 7200)) {
            return BAD;
        }
        if (shoals.size() == 16) {
            return FULL;
        }
        Shoal s = new Shoal();
        s.station = station;
        s.lock = lock;
        s.beds.add(new Bed(0, now, bed));
        shoals.add(s);
        return shoals.size() - 1;
    }

    private boolean noShoal(int shoal) {
        return out(shoal, 0, shoals.size() - 1);
    }

    public int dredge(int shoal, int day, int bed) {
        if (noShoal(shoal) || out(day, 0, 29) || out(bed, -1000, 5000)) {
            return BAD;
        }
        if (dredgings == 60) {
            return FULL;
        }
        shoals.get(shoal).beds.add(new Bed(day, now, bed));
        return ++dredgings;
    }

    private double depthOf(Shoal s, int t, int k) {
        Bed best = null;
        for (int day = 0; day <= t / DAY; day++) {
            for (Bed b : s.beds) {
                if (b.day == day && b.known <= k) {
                    best = b;
                }
            }
        }
        return best.bed / 100.0 + heightOf(s.station, t, k);
    }

    public long depth(int shoal, int t, int k) {
        if (noShoal(shoal) || noMoment(t) || out(k, 0, now)) {
            return NO_REAL;
        }
        return real(() -> depthOf(shoals.get(shoal), t, k));
    }

    private double waterOf(Shoal s, int t) {
        double h = depthOf(s, t, now);
        for (Gauge g : gauges) {
            if (g.station == s.station) {
                if (g.shorts == null) {
                    return h;
                }
                try {
                    return h + surgeOf(g, t);
                } catch (Lack e) {
                    return h;
                }
            }
        }
        return h;
    }

    public long water(int shoal, int t) {
        if (noShoal(shoal) || noMoment(t)) {
            return NO_REAL;
        }
        return real(() -> waterOf(shoals.get(shoal), t));
    }

    public int waters(int station, int from, int n) {
        int step = 60 * rules[2];
        if (out(station, 0, 11) || out(n, 3, 200) || noMoment(from) || noMoment(from + (n - 1) * step)) {
            return BAD;
        }
        return whole(() -> {
            double[] h = new double[n];
            for (int i = 0; i < n; i++) {
                h[i] = heightOf(station, from + i * step, now);
            }
            List<Water> all = new ArrayList<>();
            for (int i = 1; i < n - 1; i++) {
                boolean high = h[i] > h[i - 1] && !(h[i] < h[i + 1]);
                boolean low = h[i] < h[i - 1] && !(h[i] > h[i + 1]);
                if (high || low) {
                    int a = from + (i - 1) * step;
                    int b = from + (i + 1) * step;
                    while (b - a > 1) {
                        int m = (a + b) / 2;
                        double here = heightOf(station, m, now);
                        double next = heightOf(station, m + 1, now);
                        if (high && next > here || low && next < here) {
                            a = m;
                        } else {
                            b = m;
                        }
                    }
                    all.add(new Water(b, high, heightOf(station, b, now)));
                }
            }
            waters.set(station, new ArrayList<>(all.subList(0, Math.min(40, all.size()))));
            return waters.get(station).size();
        });
    }

    public int found(int station, int i, int what) {
        if (out(station, 0, 11) || out(what, 0, 1)) {
            return BAD;
        }
        if (out(i, 0, waters.get(station).size() - 1)) {
            return NONE;
        }
        Water w = waters.get(station).get(i);
        return what == 0 ? w.moment : w.high ? 1 : 0;
    }

    private double rangeOf(List<Water> all, int i) {
        Water a = all.get(i);
        Water b = all.get(i + 1);
        if (a.high == b.high) {
            throw new Lack();
        }
        return Math.max(a.height, b.height) - Math.min(a.height, b.height);
    }

    public long range(int station, int i) {
        if (out(station, 0, 11) || out(i, 0, waters.get(station).size() - 2)) {
            return NO_REAL;
        }
        return real(() -> rangeOf(waters.get(station), i));
    }

    public int spring(int station, boolean great) {
        if (out(station, 0, 11)) {
            return BAD;
        }
        List<Water> all = waters.get(station);
        int best = NONE;
        for (int i = 0; i + 1 < all.size(); i++) {
            try {
                double r = rangeOf(all, i);
                if (best == NONE || great && r > rangeOf(all, best) || !great && r < rangeOf(all, best)) {
                    best = i;
                }
            } catch (Lack e) {
                continue;
            }
        }
        return best;
    }

    public int tide(int station, int hour, int v) {
        float f = Float.intBitsToFloat(v);
        if (out(station, 0, 11) || out(hour, -6, 6) || !(f >= -20.0f && f <= 20.0f)) {
            return BAD;
        }
        streams[station][hour + 6] = f;
        return 1;
    }

    private float streamOf(int station, int t) {
        Water best = null;
        for (Water w : waters.get(station)) {
            if (w.high && (best == null || Math.abs(t - w.moment) < Math.abs(t - best.moment))) {
                best = w;
            }
        }
        if (best == null) {
            throw new Lack();
        }
        return streams[station][(int) Math.floor((t - best.moment + 1800) / 3600.0) + 6];
    }

    public int stream(int station, int t) {
        if (out(station, 0, 11) || noMoment(t)) {
            return NO_FLOAT;
        }
        return single(() -> streamOf(station, t));
    }

    private boolean noShip(int ship) {
        return out(ship, 0, ships.size() - 1);
    }

    private Ship shipOrNothing(int ship) {
        return ship == NONE ? null : ships.get(ship);
    }

    public int ship(int kind, int draught, int pace, int x, int p, int q) {
        if (out(kind, 0, 4) || out(draught, 0, 3000) || out(pace, 0, 3000) || out(x, -1000, 1000)) {
            return BAD;
        }
        if (kind == 4 && (out(p, -1, ships.size() - 1) || out(q, -1, ships.size() - 1))) {
            return BAD;
        }
        Ship s = kind == 0 ? new Deep() : kind == 1 ? new Light() : kind == 2 ? new Tow()
            : kind == 3 ? new Ferry() : new Pair();
        s.draught = draught;
        s.pace = pace;
        s.x = x;
        if (s instanceof Pair pair) {
            pair.one = shipOrNothing(p);
            pair.other = shipOrNothing(q);
            int a = pair.one == null ? 0 : pair.one.deep;
            int b = pair.other == null ? 0 : pair.other.deep;
            pair.deep = 1 + Math.max(a, b);
            if (pair.deep == 5) {
                return NO;
            }
        }
        if (ships.size() == 40) {
            return FULL;
        }
        ships.add(s);
        return ships.size() - 1;
    }

    public int ask(int ship, int what) {
        if (noShip(ship) || out(what, 0, 4)) {
            return BAD;
        }
        return whole(() -> {
            trace = new ArrayList<>();
            Ship s = ships.get(ship);
            int told = what == 0 ? s.need() : what == 1 ? s.keel() : what == 2 ? s.pace()
                : what == 3 ? s.patience() : s.byDay() ? 1 : 0;
            asked = told;
            return 1;
        });
    }

    public int asked() {
        return asked;
    }

    public int trace(int i) {
        return out(i, 0, trace.size() - 1) ? NONE : trace.get(i);
    }

    public int as(int ship, int kind) {
        if (out(ship, -1, ships.size() - 1) || out(kind, 0, 4)) {
            return BAD;
        }
        return whole(() -> {
            Ship s = shipOrNothing(ship);
            int told = kind == 0 ? ((Deep) s).x : kind == 1 ? ((Light) s).x : kind == 2 ? ((Tow) s).x
                : kind == 3 ? ((Ferry) s).x : ((Pair) s).x;
            asked = told;
            return 1;
        });
    }

    public int fleet(int f, int sort, int n) {
        if (out(f, 0, 3) || out(sort, 0, 5) || n > 8) {
            return BAD;
        }
        return whole(() -> {
            fleets[f] = sort == 0 ? new Deep[n] : sort == 1 ? new Light[n] : sort == 2 ? new Tow[n]
                : sort == 3 ? new Ferry[n] : sort == 4 ? new Pair[n] : new Ship[n];
            return 1;
        });
    }

    public int join(int f, int i, int ship) {
        if (out(f, 0, 3) || out(ship, -1, ships.size() - 1)) {
            return BAD;
        }
        return whole(() -> {
            fleets[f][i] = shipOrNothing(ship);
            return 1;
        });
    }

    public int member(int f, int i) {
        if (out(f, 0, 3)) {
            return BAD;
        }
        return whole(() -> {
            Ship s = fleets[f][i];
            return s == null ? NONE : ships.indexOf(s);
        });
    }

    public int move(int f, int i, int other, int j, int n) {
        if (out(f, 0, 3) || out(other, 0, 3)) {
            return BAD;
        }
        return whole(() -> {
            System.arraycopy(fleets[f], i, fleets[other], j, n);
            return n;
        });
    }

    public int shared(int f, int cost) {
        if (out(f, 0, 3) || out(cost, 0, 1000000)) {
            return BAD;
        }
        return whole(() -> {
            int many = 0;
            for (Ship s : fleets[f]) {
                many += s == null ? 0 : 1;
            }
            asked = cost / many;
            return 1;
        });
    }

    private boolean hasStart(int route) {
        return passages.stream().anyMatch(p -> p.route == route && p.start != NONE);
    }

    public int leg(int route, int shoal, int distance, int mark) {
        float f = Float.intBitsToFloat(mark);
        if (out(route, 0, 5) || noShoal(shoal) || out(distance, 0, 50000) || f < 0.0f) {
            return BAD;
        }
        List<Leg> legs = routes.get(route);
        if (!legs.isEmpty() && distance < legs.get(legs.size() - 1).distance) {
            return BAD;
        }
        if (hasStart(route)) {
            return NO;
        }
        if (legs.size() == 4) {
            return FULL;
        }
        legs.add(new Leg(shoals.get(shoal), distance, f));
        return legs.size();
    }

    public int clear(int route) {
        if (out(route, 0, 5)) {
            return BAD;
        }
        if (hasStart(route)) {
            return NO;
        }
        int had = routes.get(route).size();
        routes.get(route).clear();
        return had;
    }

    public int sun(int rise, int set) {
        if (out(rise, 0, DAY) || out(set, 0, DAY)) {
            return BAD;
        }
        this.rise = rise;
        this.set = set;
        return 1;
    }

    private int comingOf(Leg leg, int s, int pace) {
        if (pace < 1 || s + leg.distance * 100 / pace > LAST) {
            throw new Never();
        }
        return s + leg.distance * 100 / pace;
    }

    public int comes(int ship, int route, int i, int s) {
        if (noShip(ship) || out(route, 0, 5) || out(i, 0, routes.get(route).size() - 1) || noMoment(s)) {
            return BAD;
        }
        return whole(() -> {
            trace = new ArrayList<>();
            return comingOf(routes.get(route).get(i), s, ships.get(ship).pace());
        });
    }

    private boolean passes(Leg leg, int u, int need, boolean byDay) {
        if (byDay && !(u % DAY >= rise && u % DAY < set)) {
            return false;
        }
        if (!(waterOf(leg.shoal, u) >= need / 100.0)) {
            return false;
        }
        return Float.isNaN(leg.mark) || Math.abs(streamOf(leg.shoal.station, u)) < leg.mark;
    }

    private boolean holdsAt(Ship ship, int route, int minute) {
        int need = ship.need();
        int pace = ship.pace();
        boolean byDay = ship.byDay();
        if (pace < 1) {
            throw new Never();
        }
        for (Leg leg : routes.get(route)) {
            int u = comingOf(leg, 60 * minute, pace);
            if (!passes(leg, u, need, byDay)) {
                return false;
            }
        }
        return true;
    }

    private boolean noMinute(int minute) {
        return out(minute, 0, 43199);
    }

    public int holds(int ship, int route, int minute) {
        if (noShip(ship) || out(route, 0, 5) || noMinute(minute)) {
            return BAD;
        }
        return whole(() -> {
            trace = new ArrayList<>();
            return holdsAt(ships.get(ship), route, minute) ? 1 : 0;
        });
    }

    public int windows(int ship, int route, int a, int n) {
        if (noShip(ship) || out(route, 0, 5) || out(n, 1, 120) || noMinute(a) || noMinute(a + n - 1)) {
            return BAD;
        }
        return whole(() -> {
            trace = new ArrayList<>();
            wrongs = 0;
            lastWrong = 0;
            boolean[] good = new boolean[n + 1];
            for (int i = 0; i < n; i++) {
                try {
                    good[i] = holdsAt(ships.get(ship), route, a + i);
                } catch (Never e) {
                    good[i] = false;
                } catch (RuntimeException e) {
                    wrongs++;
                    lastWrong = findingOf(e);
                }
            }
            windows = new ArrayList<>();
            for (int i = 0; i < n; i++) {
                if (good[i] && (i == 0 || !good[i - 1])) {
                    int last = i;
                    while (good[last + 1]) {
                        last++;
                    }
                    windows.add(new int[] {a + i, a + last});
                }
            }
            while (windows.size() > 20) {
                windows.remove(20);
            }
            return windows.size();
        });
    }

    public int window(int i, boolean last) {
        return out(i, 0, windows.size() - 1) ? NONE : windows.get(i)[last ? 1 : 0];
    }

    public int wrong(int what) {
        return what == 0 ? wrongs : what == 1 ? lastWrong : BAD;
    }

    public int passage(int ship, int route, int minute) {
        if (noShip(ship) || out(route, 0, 5) || noMinute(minute)) {
            return BAD;
        }
        if (passages.size() == 40) {
            return FULL;
        }
        Passage p = new Passage();
        p.ship = ships.get(ship);
        p.route = route;
        p.minute = minute;
        p.since = now;
        p.waits = true;
        p.start = NONE;
        passages.add(p);
        return passages.size() - 1;
    }

    private static List<Stay> staysIn(List<Leg> legs, int[] coming, Shoal a, Shoal b) {
        List<Stay> all = new ArrayList<>();
        for (int i = 0; i + 1 < legs.size(); i++) {
            Shoal from = legs.get(i).shoal;
            Shoal to = legs.get(i + 1).shoal;
            if (from == a && to == b || from == b && to == a) {
                all.add(new Stay(coming[i], coming[i + 1]));
            }
        }
        return all;
    }

    private static List<Stay> staysIn(List<Leg> legs, int[] coming, Shoal a) {
        List<Stay> all = new ArrayList<>();
        for (int i = 0; i < legs.size(); i++) {
            if (legs.get(i).shoal == a && a.lock != 0) {
                all.add(new Stay(coming[i], coming[i] + a.lock));
            }
        }
        return all;
    }

    private static boolean meet(List<Stay> mine, List<Stay> theirs) {
        return mine.stream().anyMatch(m -> theirs.stream().anyMatch(m::meets));
    }

    private boolean together(List<Leg> legs, int[] coming, Passage other) {
        for (Shoal a : shoals) {
            if (meet(staysIn(legs, coming, a), staysIn(other.legs, other.coming, a))) {
                return true;
            }
            for (Shoal b : shoals) {
                if (meet(staysIn(legs, coming, a, b), staysIn(other.legs, other.coming, a, b))) {
                    return true;
                }
            }
        }
        return false;
    }

    private void tryToStart(Passage p) {
        int patience = p.ship.patience();
        for (int i = 0; i < patience && i < 120; i++) {
            int m = p.minute + i;
            if (m > 43199) {
                return;
            }
            try {
                if (!holdsAt(p.ship, p.route, m)) {
                    continue;
                }
            } catch (Never e) {
                continue;
            }
            List<Integer> kept = trace;
            trace = new ArrayList<>();
            int pace = p.ship.pace();
            trace = kept;
            List<Leg> legs = new ArrayList<>(routes.get(p.route));
            int[] coming = legs.stream().mapToInt(leg -> comingOf(leg, 60 * m, pace)).toArray();
            if (passages.stream().noneMatch(o -> o.start != NONE && together(legs, coming, o))) {
                p.start = m;
                p.legs = legs;
                p.coming = coming;
                return;
            }
        }
    }

    public int plan() {
        return whole(() -> {
            trace = new ArrayList<>();
            List<Passage> waiting = new ArrayList<>(passages.stream().filter(p -> p.waits).toList());
            waiting.sort((a, b) -> Integer.compare(a.since, b.since));
            for (Passage p : waiting) {
                p.waits = false;
                try {
                    tryToStart(p);
                } catch (RuntimeException e) {
                    findingOf(e);
                }
            }
            return (int) waiting.stream().filter(p -> p.start != NONE).count();
        });
    }

    private boolean noPassage(int p) {
        return out(p, 0, passages.size() - 1);
    }

    public int planned(int p, int what) {
        if (noPassage(p) || out(what, 0, 2)) {
            return BAD;
        }
        Passage it = passages.get(p);
        return what == 0 ? (it.waits ? 1 : 0) : what == 1 ? it.start : it.since;
    }

    public int again(int p) {
        if (noPassage(p)) {
            return BAD;
        }
        Passage it = passages.get(p);
        if (it.waits) {
            return NO;
        }
        it.waits = true;
        it.start = NONE;
        it.since = now;
        return 1;
    }

    private void hold(Passage p, List<Leg> rest) {
        if (rest.isEmpty()) {
            p.ship.pace();
            p.ship.patience();
            return;
        }
        Shoal s = rest.get(0).shoal;
        List<Leg> behind = rest.subList(1, rest.size());
        if (s.lock == 0) {
            hold(p, behind);
            return;
        }
        if (s.isHeld) {
            throw new AlreadyHeld();
        }
        s.isHeld = true;
        held++;
        mostHeld = Math.max(mostHeld, held);
        try {
            hold(p, behind);
        } finally {
            s.isHeld = false;
            held--;
        }
    }

    public int pass(int p) {
        if (noPassage(p)) {
            return BAD;
        }
        return whole(() -> {
            trace = new ArrayList<>();
            tries++;
            mostHeld = 0;
            Passage it = passages.get(p);
            it.ship.need();
            hold(it, routes.get(it.route));
            return 1;
        });
    }

    public int tries() {
        return tries;
    }

    public int held(int what) {
        return what == 0 ? held : what == 1 ? mostHeld : BAD;
    }

    public int count(int what) {
        int[] all = {now, surveys.size(), gauges.size(), shoals.size(), dredgings, ships.size(), passages.size(),
            windows.size(), findings};
        return out(what, 0, 8) ? BAD : all[what];
    }

    public int finding() {
        return finding;
    }

    public int digest() {
        int h = 7;
        for (Passage p : passages) {
            h = 31 * h + p.start;
        }
        return h;
    }
}
