import java.lang.reflect.Method;
import java.util.ArrayList;
import java.util.List;
import java.util.Random;

/** Runs of 512 calls, drawn by fixed seeds, on a TideDesk and on the Model: their answers must be alike. */
public final class ModelRunsTest {
    private static final int CALLS = 512;
    private static final int LAST = 2591999;

    /** A call's name, how often it is drawn, and what its numbers are drawn from. */
    private static final String[] CALLS_DRAWN = {
        "clock 4 soon", "mean 6 station mean", "wave 10 station size speed phase", "survey 8 station day",
        "cos 1 any", "height 3 station moment known", "force 3 station moment known",
        "gauge 3 station first step", "reading 20 gauge short air", "out 2 gauge is", "at 2 gauge place",
        "air 2 gauge place", "compare 4 gauge place place", "rule 3 ruled rule", "surge 8 gauge moment",
        "lacking 3", "shoal 5 station bed lock", "dredge 5 shoal day bed", "depth 4 shoal moment known",
        "water 6 shoal moment", "waters 6 station moment many", "found 4 station place bit",
        "range 4 station place", "spring 3 station is", "tide 6 station hour stream", "stream 6 station moment",
        "ship 8 kind draught pace x part part", "ask 8 ship what", "asked 4", "trace 6 place", "as 4 part kind",
        "fleet 4 fleet sort places", "join 8 fleet seat part", "member 4 fleet seat",
        "move 4 fleet seat fleet seat seat", "shared 3 fleet cost", "leg 9 route shoal distance mark",
        "clear 1 route", "sun 1 sun sun", "comes 4 ship route leg moment", "holds 6 ship route minute",
        "windows 4 ship route minute window", "window 6 place is", "wrong 3 bit",
        "passage 7 ship route minute", "plan 3", "planned 6 passage what", "again 3 passage", "pass 5 passage",
        "tries 2", "held 3 bit", "count 4 what", "finding 6", "digest 3"};

    private final Random random;
    private final List<String> told = new ArrayList<>();
    private final Method[] mine = new Method[CALLS_DRAWN.length];
    private final Method[] theirs = new Method[CALLS_DRAWN.length];
    private final int[] weights = new int[CALLS_DRAWN.length];
    private final TideDesk desk = new TideDesk();
    private final Model model = new Model();
    private boolean isLike = true;
    private int now;

    private ModelRunsTest(long seed) throws ReflectiveOperationException {
        random = new Random(seed);
        for (int i = 0; i < CALLS_DRAWN.length; i++) {
            String[] words = CALLS_DRAWN[i].split(" ");
            Class<?>[] types = new Class<?>[words.length - 2];
            for (int j = 0; j < types.length; j++) {
                types[j] = words[j + 2].equals("is") ? boolean.class : int.class;
            }
            mine[i] = TideDesk.class.getMethod(words[0], types);
            theirs[i] = Model.class.getMethod(words[0], types);
            // Each seed has calls that it is fond of, so that runs differ in what they fill.
            weights[i] = Integer.parseInt(words[1]) * (1 + random.nextInt(4) * random.nextInt(3));
        }
    }

    public static void main(String[] args) throws ReflectiveOperationException {
        int runs = args.length > 0 ? Integer.parseInt(args[0]) : 600;
        int first = args.length > 1 ? Integer.parseInt(args[1]) : 1;
        int wrong = 0;
        for (int seed = first; seed < first + runs && wrong < 3; seed++) {
            if (!new ModelRunsTest(seed).isLike(seed)) {
                wrong++;
            }
        }
        System.out.println(wrong == 0 ? runs + " runs are like the model" : wrong + " runs are not like the model");
        if (wrong != 0) {
            System.exit(1);
        }
    }

    private boolean isLike(long seed) throws ReflectiveOperationException {
        if (seed % 3 != 0) {
            prepare();
        }
        while (told.size() < CALLS && isLike) {
            // Windows that find much bring the limit of findings near.
            call(seed % 3 == 1 && random.nextInt(6) == 0 ? indexOf("windows") : drawCall());
        }
        if (!isLike) {
            System.out.println("seed " + seed + ": the last answer is not that of the model");
            told.forEach(line -> System.out.println("  " + line));
        }
        return isLike;
    }

    private static int indexOf(String name) {
        for (int i = 0; i < CALLS_DRAWN.length; i++) {
            if (CALLS_DRAWN[i].startsWith(name + " ")) {
                return i;
            }
        }
        throw new IllegalArgumentException(name);
    }

    /** Makes a call with these numbers, the rest of them drawn. */
    private void call(int c, int... fixed) throws ReflectiveOperationException {
        String[] words = CALLS_DRAWN[c].split(" ");
        Object[] numbers = new Object[words.length - 2];
        for (int j = 0; j < numbers.length; j++) {
            boolean is = words[j + 2].equals("is");
            numbers[j] = is ? (Object) random.nextBoolean() : j < fixed.length ? fixed[j] : draw(words[j + 2]);
        }
        Object got = mine[c].invoke(desk, numbers);
        Object want = theirs[c].invoke(model, numbers);
        now = model.count(0);
        told.add(words[0] + List.of(numbers) + " = " + got + (got.equals(want) ? "" : ", the model: " + want));
        isLike &= got.equals(want);
    }

    private void call(String name, int... fixed) throws ReflectiveOperationException {
        call(indexOf(name), fixed);
    }

    /** Tells a harbour, so that the calls drawn behind it have much to look at. */
    private void prepare() throws ReflectiveOperationException {
        for (int station = 0; station < 3; station++) {
            call("mean", station, random.nextInt(300));
            call("wave", station, random.nextInt(3000), pick(1466, 733, 3000, 20000));
            call("wave", station, random.nextInt(1000));
            call("survey", station, station == 2 ? 1 : 0);
            call("shoal", station, 100 + random.nextInt(700));
            call("shoal", station, 100 + random.nextInt(400), 600);
            call("waters", station, station == 2 ? 86400 : 0, 200);
            for (int hour = -6; hour <= 6; hour += 2) {
                call("tide", station, hour, Float.floatToIntBits(random.nextFloat() * 4 - 2));
            }
        }
        call("gauge", 0, 0, 60);
        call("gauge", 1, 3600, 600);
        call("clock", 40000);
        for (int i = 0; i < 24; i++) {
            call("reading", i % 3 / 2, random.nextInt(700) - 100);
        }
        for (int kind = 0; kind < 10; kind++) {
            call("ship", kind % 5, random.nextInt(400), 50 + random.nextInt(1000), random.nextInt(3), kind - 3, kind / 2);
        }
        for (int i = 0; i < 14; i++) {
            call("leg", random.nextInt(4), random.nextInt(6), 500 * (i / 4));
        }
        for (int i = 0; i < 10; i++) {
            call("passage", random.nextInt(10), random.nextInt(5), pick(0, 5, 360, 600) + random.nextInt(20));
        }
        call("rule", 0, pick(1, 5, 9));
        for (int i = 0; i < 3; i++) {
            call("fleet", i, pick(0, 1, 5, 5), 6);
        }
        if (random.nextInt(6) == 0) {
            findNearlyAll();
        }
    }

    /** Leaves some findings of those allowed: no survey is told of the station here. */
    private void findNearlyAll() throws ReflectiveOperationException {
        call("shoal", 9, 0, 0);
        call("leg", 5, model.count(3) - 1, 0);
        for (int i = 0; i < 24; i++) {
            call("windows", 1, 5, i, 120);
        }
    }

    private int drawCall() {
        // What is told comes early, so that there is something to look at.
        int sum = 0;
        for (int w : weights) {
            sum += w;
        }
        int at = random.nextInt(sum);
        int c = 0;
        while (at >= weights[c]) {
            at -= weights[c];
            c++;
        }
        String name = mine[c].getName();
        boolean tells = "mean wave survey gauge shoal ship leg waters reading passage tide fleet".contains(name);
        return !tells && told.size() < 120 && random.nextInt(3) > 0 ? drawCall() : c;
    }

    private int near(int most) {
        return random.nextInt(12) == 0 ? random.nextInt(most + 3) - 1 : Math.min(most, random.nextInt(3));
    }

    private int within(int least, int most) {
        switch (random.nextInt(40)) {
            case 0:
                return least - 1;
            case 1:
                return most + 1;
            case 2:
                return least;
            case 3:
                return most;
            case 4:
                return random.nextBoolean() ? Integer.MAX_VALUE : Integer.MIN_VALUE;
            default:
                return least + random.nextInt(most - least + 1);
        }
    }

    private int pick(int... of) {
        return of[random.nextInt(of.length)];
    }

    private int draw(String what) {
        switch (what) {
            case "station":
                return near(11);
            case "mean":
                return random.nextBoolean() ? pick(0, 100, -100, 300) : within(-2000, 2000);
            case "size":
                return random.nextBoolean() ? pick(0, 500, 1000, 2000) : within(0, 9999);
            case "speed":
                return pick(0, 1466, 1466, 733, 3000, 20000, 60000, within(0, 60000));
            case "phase":
                return pick(0, 16384, 32768, 49152, within(0, 65535));
            case "day":
                return random.nextInt(3) > 0 ? pick(0, 0, 1, 2) : within(0, 29);
            case "any":
                return random.nextInt();
            case "soon":
                return Math.max(0, now) + pick(0, 1, 60, 3600, 20000, 86400, -1, within(0, LAST));
            case "known":
                return random.nextInt(3) > 0 ? now - pick(0, 0, 0, 1, 60, -1) : within(0, Math.max(1, now));
            case "moment":
            case "first":
                return drawMoment();
            case "step":
                return pick(60, 60, 600, 3600, within(60, 7200));
            case "gauge":
                return near(9);
            case "short":
                return pick(-32768, 0, 100, 250, 300, within(-500, 500), within(-32768, 32767));
            case "air":
                return pick(0, 0x80000000, 0x7f800000, 0xff800000, 0x3f800000, 0xbf800000, 0x7fc00000, -1,
                    random.nextInt());
            case "place":
                return random.nextInt(20) == 0 ? within(0, 120) : random.nextInt(6);
            case "ruled":
                return within(0, 2);
            case "rule":
                return pick(1, 5, 9, 10, 12, 30, 48, 60, within(0, 61));
            default:
                return drawOfShips(what);
        }
    }

    private int drawMoment() {
        switch (random.nextInt(6)) {
            case 0:
                return within(0, LAST);
            case 1:
                return random.nextInt(4) * 86400 + random.nextInt(3) - 1;
            case 2:
                return now + random.nextInt(7200) - 3600;
            case 3:
                return 0;
            default:
                return random.nextInt(100000);
        }
    }

    private int drawOfShips(String what) {
        switch (what) {
            case "bed":
                return random.nextInt(3) > 0 ? pick(0, 100, 200, 500, 1500) : within(-1000, 5000);
            case "lock":
                return pick(0, 0, 1, 600, 900, within(0, 7200));
            case "shoal":
                return random.nextInt(4) > 0 ? random.nextInt(4) : near(15);
            case "many":
                return within(3, 200);
            case "bit":
                return random.nextInt(12) == 0 ? pick(-1, 2) : random.nextInt(2);
            case "hour":
                return within(-6, 6);
            case "stream":
                return pick(0, 0x80000000, 0x41a00000, 0xc1a00000, 0x41a00001, 0x7fc00000,
                    Float.floatToIntBits(random.nextInt(5) - 2), Float.floatToIntBits(random.nextFloat()));
            case "kind":
                return within(0, 4);
            case "draught":
                return random.nextBoolean() ? pick(0, 100, 300) : within(0, 3000);
            case "pace":
                return random.nextInt(4) > 0 ? pick(0, 1, 100, 500, 800, 3000) : within(0, 3000);
            case "x":
                return random.nextInt(3) > 0 ? pick(0, 1, 2, 5, -1, 25) : within(-1000, 1000);
            case "part":
                return random.nextInt(5) == 0 ? pick(-1, -1, -2) : random.nextInt(12);
            case "ship":
                return random.nextInt(30) == 0 ? within(0, 39) : random.nextInt(10);
            case "what":
                return within(0, random.nextBoolean() ? 2 : 8);
            case "fleet":
                return random.nextInt(30) == 0 ? pick(-1, 4) : random.nextInt(4);
            case "sort":
                return random.nextBoolean() ? 5 : within(0, 5);
            case "places":
                return pick(0, 8, 8, within(-1, 8), within(0, 8), 9, -1);
            case "seat":
                return random.nextInt(15) == 0 ? within(-1, 9) : random.nextInt(6);
            case "cost":
                return within(0, 1000000);
            default:
                return drawOfRoutes(what);
        }
    }

    private int drawOfRoutes(String what) {
        switch (what) {
            case "route":
                return random.nextInt(30) == 0 ? pick(-1, 6) : random.nextInt(random.nextBoolean() ? 2 : 6);
            case "distance":
                return random.nextInt(4) > 0 ? pick(0, 60, 600, 3000, 6000) : within(0, 50000);
            case "mark":
                return pick(0x7fc00000, 0x7fc00000, 0x7fc00000, -1, 0, 0x80000000, 0x7f800000, 0x3f800000,
                    0xbf800000, Float.floatToIntBits(random.nextFloat() * 3));
            case "sun":
                return random.nextInt(3) > 0 ? pick(0, 21600, 64800, 86400) : within(0, 86400);
            case "leg":
                return random.nextInt(15) == 0 ? pick(-1, 4) : random.nextInt(3);
            case "minute":
                return random.nextInt(5) == 0 ? within(0, 43199) : pick(0, 5, 300, 1400, 1430, 1435, 43190,
                    random.nextInt(4320));
            case "window":
                return within(1, 120);
            case "passage":
                return random.nextInt(15) == 0 ? within(0, 39) : random.nextInt(8);
            default:
                throw new IllegalArgumentException(what);
        }
    }
}
