import java.util.function.IntToDoubleFunction;

/** 4 WATERS: which are HIGH or LOW, HALVING, how many are kept, RANGES, STREAMS. */
final class BoundsOfWaters {
    private static final int DAY = Checks.DAY, LAST = Checks.LAST, HOUR = 3600;

    private BoundsOfWaters() {
    }

    static void run() {
        momentsThatAreNone();
        highsAndLows();
        flatNeighbours();
        halving();
        fortyAreKept();
        asFoundLatest();
        withoutSurvey();
        foundOnes();
        ranges();
        springs();
        streamHours();
        streamWithoutHigh();
        nearestHighs();
    }

    /** A STATION whose MEAN changes by the DAYS alone, looked at by hours. */
    private static TideDesk stepped(int... means) {
        TideDesk x = new TideDesk();
        x.rule(2, 60);
        for (int day = 0; day < means.length; day++) {
            x.mean(0, means[day]);
            x.survey(0, day);
        }
        return x;
    }

    /** HALVING as the document tells it, over any heights. */
    private static int halved(IntToDoubleFunction height, int from, int to, boolean isHigh) {
        int low = from;
        int high = to;
        while (high - low > 1) {
            int m = (low + high) / 2;
            double here = height.applyAsDouble(m);
            double next = height.applyAsDouble(m + 1);
            if (isHigh ? next > here : next < here) {
                low = m;
            } else {
                high = m;
            }
        }
        return high;
    }

    private static void momentsThatAreNone() {
        Checks.terms("4 WATERS of a STATION, as found latest: at MOMENTS from + i * 60 * STEPS (1 .. 60 minutes; 10 at"
            + " first), i = 0 .. n - 1 (n 3 .. 200), as KNOWN NOW:");
        Checks.promise(22, "WATERS of a STATION are found: how many are kept. BAD: n; from, or a last MOMENT, that is none;");
        for (int steps : new int[] {10, 1, 60}) {
            TideDesk x = new TideDesk();
            x.survey(0, 0);
            if (steps != 10) {
                x.rule(2, steps);
            }
            for (int n : new int[] {3, 4, 200}) {
                int length = (n - 1) * 60 * steps;
                Checks.due("the last MOMENT", x.waters(0, LAST - length, n), 0);
                Checks.due("beyond it", x.waters(0, LAST - length + 1, n), Checks.BAD);
                Checks.due("the first MOMENT", x.waters(0, 0, n), 0);
                Checks.due("before it", x.waters(0, -1, n), Checks.BAD);
            }
            Checks.dueAll("n", Checks.BAD, x.waters(0, 0, 2), x.waters(0, 0, 201), x.waters(0, 0, 0), x.waters(0, 0, -3),
                x.waters(0, 0, Checks.MOST), x.waters(0, 0, Checks.LEAST), x.waters(0, LAST, Checks.MOST));
            Checks.dueAll("from", Checks.BAD, x.waters(0, LAST, 3), x.waters(0, LAST + 1, 3), x.waters(0, Checks.MOST, 3),
                x.waters(0, Checks.LEAST, 3), x.waters(0, Checks.MOST - 7199, 3));
        }
    }

    private static void highsAndLows() {
        Checks.terms("i, not the first nor the last, is HIGH, if its HEIGHT is above that of i - 1, and not below that of"
            + " i + 1; LOW, if it is below the one, and not above the other.");
        TideDesk up = stepped(0, 100);
        Checks.due("i = 1 of 3", up.waters(0, DAY - HOUR, 3), 1);
        Checks.due("it is HIGH", up.found(0, 0, 1), 1);
        Checks.due("i = 2 of 3 is the last", up.waters(0, DAY - 2 * HOUR, 3), 0);
        Checks.due("i = 2 of 4 is not", up.waters(0, DAY - 2 * HOUR, 4), 1);
        Checks.due("i = 0 is the first", up.waters(0, DAY, 3), 0);
        Checks.due("a second later", up.waters(0, DAY - HOUR + 1, 3), 1);
        Checks.due("as early as may be", up.waters(0, DAY - 1, 3), 1);
        Checks.due("a second too early", up.waters(0, DAY - HOUR - 1, 3), 0);
        TideDesk down = stepped(100, 0);
        Checks.due("i = 1 of 3", down.waters(0, DAY - HOUR, 3), 1);
        Checks.due("it is LOW", down.found(0, 0, 1), 0);
        Checks.due("i = 2 of 3 is the last", down.waters(0, DAY - 2 * HOUR, 3), 0);
        Checks.due("i = 0 is the first", down.waters(0, DAY, 3), 0);
        TideDesk flat = stepped(5, 5);
        Checks.due("neither above nor below", flat.waters(0, DAY - HOUR, 3), 0);
    }

    private static void flatNeighbours() {
        Checks.terms("and not below that of i + 1");
        // A wave of 1 in 1000 and a step of a DAY: rising, then falling, or flat behind the step.
        TideDesk rises = new TideDesk();
        rises.rule(2, 60);
        rises.wave(0, 9999, 100, 32768);
        rises.survey(0, 0);
        Checks.due("rising all the time", rises.waters(0, 0, 80), 0);
        TideDesk falls = new TideDesk();
        falls.rule(2, 60);
        falls.wave(0, 9999, 100, 0);
        falls.survey(0, 0);
        Checks.due("falling all the time", falls.waters(0, 0, 80), 0);
        // Each HEIGHT stands for hours, for COS has 65536 steps: SPEED 1 is one of them in 1000 seconds.
        TideDesk slow = new TideDesk();
        slow.rule(2, 1);
        slow.wave(0, 9999, 1, 32768);
        slow.survey(0, 0);
        int many = slow.waters(0, 0, 200);
        int due = 0;
        for (int i = 1; i < 199; i++) {
            due += Checks.cosOf(32768 + 60L * i / 1000) > Checks.cosOf(32768 + 60L * (i - 1) / 1000) ? 1 : 0;
        }
        Checks.due("each that is above the one before, and like the one behind", many, due);
        Checks.due("there were some", many, 11);
        for (int i = 0; i < many; i++) {
            Checks.due("HIGH", slow.found(0, i, 1), 1);
        }
        slow.wave(0, 9999, 1, 0);
        slow.survey(0, 0);
        Checks.due("as many that are below", slow.waters(0, 0, 200), 11);
        Checks.due("LOW", slow.found(0, 0, 1), 0);
        Checks.due("LOW", slow.found(0, 10, 1), 0);
    }

    private static void halving() {
        Checks.terms("Its MOMENT by HALVING: low, high are those of i - 1, i + 1; as long as high - low is above 1: m ="
            + " (low + high) / 2; low becomes m, if HEIGHT at m + 1 is above (LOW: below) that at m, else high; high is"
            + " it.");
        TideDesk up = stepped(0, 100);
        up.waters(0, DAY - HOUR, 3);
        Checks.due("flat: the first second", up.found(0, 0, 0), DAY - HOUR + 1);
        up.waters(0, DAY - HOUR + 1799, 3);
        Checks.due("the step is met by halving twice", up.found(0, 0, 0), DAY);
        up.waters(0, DAY - HOUR + 1800, 3);
        Checks.due("a second beside it", up.found(0, 0, 0), DAY - HOUR + 1801);
        TideDesk down = stepped(100, 0);
        down.waters(0, DAY - HOUR + 1799, 3);
        Checks.due("the step is met by halving twice", down.found(0, 0, 0), DAY);
        down.waters(0, DAY - HOUR + 1798, 3);
        Checks.due("a second beside it", down.found(0, 0, 0), DAY - HOUR + 1799);
        for (int steps : new int[] {1, 10, 60}) {
            TideDesk x = new TideDesk();
            x.rule(2, steps);
            x.wave(0, 9999, 655, 30000);
            x.survey(0, 0);
            IntToDoubleFunction height = t -> 0.0 + 9999 / 1000.0 * Checks.cosOf(30000 + 655L * t / 1000);
            int from = 54500 - 100 * 60 * steps;
            int first = Math.max(0, from);
            int many = x.waters(0, first, 200);
            int found = 0;
            for (int i = 1; i < 199; i++) {
                int t = first + i * 60 * steps;
                double here = height.applyAsDouble(t);
                double before = height.applyAsDouble(t - 60 * steps);
                double behind = height.applyAsDouble(t + 60 * steps);
                boolean isHigh = here > before && here >= behind;
                if (found < 40 && (isHigh || here < before && here <= behind)) {
                    Checks.due("by steps of " + steps, x.found(0, found, 0),
                        halved(height, t - 60 * steps, t + 60 * steps, isHigh));
                    Checks.due("HIGH", x.found(0, found, 1), isHigh ? 1 : 0);
                    found++;
                }
            }
            Checks.due("all of them", many, found);
            Checks.dueTrue("some were found", found > 0);
        }
    }

    /** Each step but the first and the last is HIGH or LOW by turns. */
    private static TideDesk byTurns() {
        TideDesk x = new TideDesk();
        x.wave(0, 1000, 54613, 0);
        x.survey(0, 0);
        return x;
    }

    private static void fortyAreKept() {
        Checks.terms("40 are kept, the first ones, with their HEIGHTS as they were then.");
        int[][] kept = {{3, 1}, {41, 39}, {42, 40}, {43, 40}, {200, 40}};
        for (int[] edge : kept) {
            TideDesk x = byTurns();
            int many = x.waters(0, 0, edge[0]);
            Checks.due("of " + edge[0], many, edge[1]);
            Checks.due("HIGH and LOW by turns", x.found(0, many - 1, 1), many % 2 == 0 ? 1 : 0);
            Checks.dueTrue("the last is where it must be", Math.abs(x.found(0, many - 1, 0) - 600 * many) <= 600);
            Checks.due("none behind it", x.found(0, many, 0), Checks.NONE);
        }
        TideDesk x = byTurns();
        x.waters(0, 0, 200);
        long before = x.range(0, 38);
        int moment = x.found(0, 39, 0);
        x.mean(0, 2000);
        x.survey(0, 0);
        Checks.due("the last RANGE is as it was", x.range(0, 38), before);
        Checks.due("the last MOMENT is as it was", x.found(0, 39, 0), moment);
        Checks.due("no RANGE behind it", x.range(0, 39), Checks.NO_REAL);
        Checks.due("that is BAD", x.count(8), 0);
    }

    private static void asFoundLatest() {
        Checks.terms("as found latest");
        TideDesk x = byTurns();
        x.survey(1, 0);
        Checks.due("forty", x.waters(0, 0, 200), 40);
        Checks.due("of another one none", x.waters(1, 0, 200), 0);
        Checks.due("the forty stay", x.found(0, 39, 1), 1);
        Checks.due("BAD: they stay", x.waters(0, 0, 2), Checks.BAD);
        Checks.due("the forty stay", x.found(0, 39, 1), 1);
        Checks.due("one", x.waters(0, 600, 3), 1);
        Checks.due("it is the latest", x.found(0, 0, 1), 1);
        Checks.due("the second is gone", x.found(0, 1, 0), Checks.NONE);
        x.survey(0, 0);
        Checks.due("none now", x.waters(0, 0, 200), 0);
        Checks.due("the first is gone", x.found(0, 0, 0), Checks.NONE);
        Checks.due("no RANGE is left", x.spring(0, true), Checks.NONE);
    }

    private static void withoutSurvey() {
        Checks.promise(22, "NULL: at one of those MOMENTS, the first and the last, too (WATERS of before stay).");
        Harbour.found(Harbour::make, "no SURVEY at all", Checks.NULL, 1, x -> x.waters(2, 0, 3));
        Harbour.found(Harbour::make, "at the first alone", Checks.NULL, 1, x -> x.waters(1, DAY - 1, 3));
        Harbour.found(Harbour::make, "at all but the last", Checks.NULL, 1, x -> x.waters(1, DAY - 2 * 1800, 3));
        Harbour.found(Harbour::make, "at the last, too", Checks.NULL, 1, x -> x.waters(1, DAY - 2 * 1800 - 1, 3));
        TideDesk x = new TideDesk();
        x.wave(0, 1000, 54613, 0);
        x.survey(0, 1);
        Checks.due("from the DAY on", x.waters(0, DAY, 12), 10);
        Checks.due("a second before", x.waters(0, DAY - 1, 12), Checks.NULL);
        Checks.due("the tenth stays", x.found(0, 9, 1) + x.found(0, 8, 1), 1);
        Checks.due("there is no eleventh", x.found(0, 10, 0), Checks.NONE);
        Checks.dueTrue("the RANGE stays", x.range(0, 8) != Checks.NO_REAL);
    }

    private static void foundOnes() {
        Checks.promise(23, "Of WATER i: 0 its MOMENT, 1 whether it is HIGH (1, 0). BAD: STATION, what; NONE: there is none"
            + " such.");
        TideDesk x = byTurns();
        x.waters(0, 0, 4);
        Checks.due("i = 1 is LOW", x.found(0, 0, 1), 0);
        Checks.due("i = 2 is HIGH", x.found(0, 1, 1), 1);
        for (int i : new int[] {2, -1, 40, Checks.MOST, Checks.LEAST}) {
            Checks.dueAll("none", Checks.NONE, x.found(0, i, 0), x.found(0, i, 1), x.found(1, i, 0));
            Checks.dueAll("BAD ahead of NONE", Checks.BAD, x.found(0, i, 2), x.found(0, i, -1), x.found(12, i, 0),
                x.found(-1, i, 0));
        }
        Checks.due("no FINDING", x.count(8), 0);
    }

    private static void ranges() {
        Checks.terms("RANGE i: those HEIGHTS of WATERS i and i + 1, the greater less the lesser, if one is HIGH and one LOW"
            + " (LACK).");
        // HALVING finds flat ones a second behind the step before, where the HEIGHT is that of the DAY before.
        TideDesk x = stepped(0, 100, 350, 50, -25, 0);
        Checks.due("HIGH, HIGH, LOW, LOW, HIGH", x.waters(0, 0, 150), 5);
        Checks.promise(24, "RANGE i, a REAL. BAD: also there are not both; LACK.");
        Checks.due("two HIGHS", x.range(0, 0), Checks.NO_REAL);
        Checks.due("LACK", x.finding(), 7);
        Checks.due("HIGH, LOW", x.range(0, 1), Checks.bits(3.5 - 1.0));
        Checks.due("one FINDING", x.count(8), 1);
        Checks.due("two LOWS", x.range(0, 2), Checks.NO_REAL);
        Checks.due("two FINDINGS", x.count(8), 2);
        Checks.due("LOW, HIGH", x.range(0, 3), Checks.bits(0.5 - -0.25));
        for (int i : new int[] {4, 5, -1, 39, 40, Checks.MOST, Checks.LEAST}) {
            Checks.due("there are not both", x.range(0, i), Checks.NO_REAL);
        }
        Checks.dueAll("of others", Checks.NO_REAL, x.range(1, 0), x.range(12, 1), x.range(-1, 1));
        Checks.due("BAD is no FINDING", x.count(8), 2);
        TideDesk one = stepped(0, 100);
        one.waters(0, 0, 40);
        Checks.due("one alone", one.range(0, 0), Checks.NO_REAL);
        Checks.due("BAD", one.count(8), 0);
        TideDesk like = stepped(100, 300, 100);
        like.rule(2, 50);
        like.waters(0, DAY + 1499 - 3000, 40);
        Checks.due("the HIGH is met at its first second", like.found(0, 0, 0), DAY);
        Checks.due("the LOW is met ahead of its step", like.found(0, 1, 0), 2 * DAY - 900);
        Checks.due("3.0 less 3.0", like.range(0, 0), Checks.bits(0.0));
        Harbour.refused(Harbour::make, "BAD", Checks.NO_REAL, y -> y.range(0, 6));
    }

    private static void springs() {
        Checks.terms("SPRING, NEAP: the first i with the greatest, least RANGE.");
        Checks.promise(25, "SPRING (great), NEAP; NONE: there is no RANGE.");
        dueSprings("like ones", stepped(0, 100, 0, 100, 0), 0, 0);
        dueSprings("the last is greatest", stepped(0, 100, 0, 300, 0), 2, 0);
        dueSprings("the first is greatest", stepped(0, 300, 0, 100, 0, 100, 0), 0, 2);
        dueSprings("two HIGHS first", stepped(0, 100, 350, 50, 40, 400), 1, 3);
        dueSprings("one RANGE alone", stepped(0, 100, 0), 0, 0);
        dueSprings("HIGHS alone", stepped(0, 100, 200, 300), Checks.NONE, Checks.NONE);
        dueSprings("LOWS alone", stepped(300, 200, 100), Checks.NONE, Checks.NONE);
        dueSprings("one WATER", stepped(0, 100), Checks.NONE, Checks.NONE);
        dueSprings("no WATER", stepped(100), Checks.NONE, Checks.NONE);
        TideDesk x = new TideDesk();
        Checks.dueAll("nothing found yet", Checks.NONE, x.spring(0, true), x.spring(11, false));
        Checks.dueAll("BAD", Checks.BAD, x.spring(-1, true), x.spring(12, true), x.spring(-1, false), x.spring(12, false));
        Checks.due("no FINDING", x.count(8), 0);
    }

    private static void dueSprings(String what, TideDesk x, int spring, int neap) {
        x.waters(0, 0, 180);
        Checks.due(what + ": SPRING", x.spring(0, true), spring);
        Checks.due(what + ": NEAP", x.spring(0, false), neap);
        Checks.due(what + ": no FINDING", x.count(8), 0);
    }

    private static TideDesk withHigh() {
        TideDesk x = stepped(0, 100);
        x.waters(0, DAY - HOUR, 3);
        for (int hour = -6; hour <= 6; hour++) {
            x.tide(0, hour, Checks.bits((float) (hour + 10)));
        }
        return x;
    }

    private static void streamHours() {
        Checks.terms("STREAM of a STATION at t: a FLOAT of its row of 13 (0.0 at first; told -20.0 .. 20.0), by hours"
            + " -6 .. 6 from the nearest HIGH of its WATERS");
        Checks.terms("(t less its MOMENT and 1800) / 3600, rounded down; INDEX: it is no such hour; LACK: no HIGH was"
            + " found.");
        TideDesk x = withHigh();
        int high = x.found(0, 0, 0);
        for (int hour = -6; hour <= 6; hour++) {
            int begin = high + hour * HOUR - 1800;
            Checks.due("its first second", x.stream(0, begin), Checks.bits((float) (hour + 10)));
            Checks.due("its last second", x.stream(0, begin + HOUR - 1), Checks.bits((float) (hour + 10)));
        }
        Checks.due("no FINDING", x.count(8), 0);
        Checks.promise(27, "STREAM at t: BITS. BAD; LACK; INDEX.");
        for (int t : new int[] {high - 23401, high + 23400, 0, LAST}) {
            int findings = x.count(8);
            Checks.due("no such hour", x.stream(0, t), Checks.NO_FLOAT);
            Checks.due("INDEX", x.finding(), 2);
            Checks.due("a FINDING more", x.count(8), findings + 1);
        }
        Checks.promise(26, "The FLOAT of an hour -6 .. 6 becomes v (BITS): 1.");
        for (int v : new int[] {Checks.bits(20.0f), Checks.bits(-20.0f), 0x80000000, 1, 0x80000001, 0}) {
            Checks.due("told", x.tide(0, 0, v), 1);
            Checks.due("as told", x.stream(0, high), v);
        }
        x.tide(0, 0, Checks.bits(3.0f));
        Checks.dueAll("BAD", Checks.BAD, x.tide(0, 0, Checks.bits(20.0f) + 1), x.tide(0, 0, Checks.bits(-20.0f) + 1),
            x.tide(0, 0, Checks.NO_FLOAT), x.tide(0, 7, 0), x.tide(0, -7, 0), x.tide(12, 0, 0));
        Checks.due("BAD leaves it", x.stream(0, high), Checks.bits(3.0f));
        TideDesk first = stepped(0, 100);
        first.waters(0, DAY - HOUR, 3);
        first.tide(1, 0, Checks.bits(9.0f));
        for (int hour = -6; hour <= 6; hour++) {
            Checks.due("0.0 at first", first.stream(0, first.found(0, 0, 0) + hour * HOUR), 0);
        }
    }

    private static void streamWithoutHigh() {
        Checks.terms("LACK: no HIGH was found.");
        TideDesk down = stepped(100, 0);
        Checks.due("one LOW", down.waters(0, DAY - HOUR, 3), 1);
        Checks.due("is no HIGH", down.stream(0, down.found(0, 0, 0)), Checks.NO_FLOAT);
        Checks.due("LACK", down.finding(), 7);
        Harbour.found(Harbour::make, "nothing found yet", Checks.NO_FLOAT, 7, x -> x.stream(1, 90000));
        Harbour.found(Harbour::make, "too far from all", Checks.NO_FLOAT, 2, x -> x.stream(0, 0));
        Harbour.found(Harbour::make, "too far from all", Checks.NO_FLOAT, 2, x -> x.stream(0, LAST));
        TideDesk x = withHigh();
        x.waters(0, 0, 3);
        Checks.due("the HIGH is gone", x.stream(0, DAY), Checks.NO_FLOAT);
        Checks.due("LACK", x.finding(), 7);
    }

    private static void nearestHighs() {
        Checks.terms("from the nearest HIGH of its WATERS (of as near ones the earlier)");
        int asNear = 0;
        for (int speed = 1600; speed < 1800; speed += 7) {
            TideDesk x = new TideDesk();
            x.wave(0, 1000, speed, 32768);
            x.survey(0, 0);
            x.waters(0, 0, 200);
            for (int hour = -6; hour <= 6; hour++) {
                x.tide(0, hour, Checks.bits((float) hour));
            }
            int first = x.found(0, 0, 0);
            int second = x.found(0, 2, 0);
            int middle = (first + second) / 2;
            asNear += (first + second) % 2 == 0 ? 1 : 0;
            Checks.due("the earlier, or the nearer", x.stream(0, middle),
                Checks.bits((float) Math.floorDiv(middle - first + 1800, HOUR)));
            Checks.due("the nearer", x.stream(0, middle + 1),
                Checks.bits((float) Math.floorDiv(middle + 1 - second + 1800, HOUR)));
            Checks.due("the LOW between is none", x.stream(0, x.found(0, 1, 0) - 60) == 0 ? 1 : 0, 0);
        }
        Checks.dueTrue("some were as near", asNear > 0);
    }
}
