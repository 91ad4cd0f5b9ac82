import java.util.ArrayList;
import java.util.List;

/** What is named by numbers: on a new desk, where nothing is, and on desks that are full of it. */
final class BoundsOfNames {
    private static final int NONE = Checks.NONE, BAD = Checks.BAD, NO_FLOAT = Checks.NO_FLOAT;

    private BoundsOfNames() {
    }

    static void run() {
        aNewDesk();
        nothingIsNamed();
        lastNames();
        lastNumbersOfAll();
        streamsSideBySide();
        watersSideBySide();
        wavesSideBySide();
        readingsSideBySide();
        placesSideBySide();
    }

    private static void aNewDesk() {
        Checks.promise(1, "As at first.");
        TideDesk x = new TideDesk();
        for (int what = 0; what <= 8; what++) {
            Checks.due("count(" + what + ")", x.count(what), 0);
        }
        Checks.dueAll("nothing was asked, found, tried", 0, x.asked(), x.lacking(), x.wrong(0), x.wrong(1), x.tries(),
            x.held(0), x.held(1), x.finding(), x.plan());
        Checks.dueAll("none", NONE, x.trace(0), x.window(0, false), x.window(0, true));
        Checks.promise(2, "NOW becomes a MOMENT: 1.");
        Checks.terms("NOW is one (0 at first)");
        Checks.due("NOW", x.count(0), 0);
        Checks.due("what is before NOW", x.clock(-1), BAD);
        Checks.due("NOW again", x.clock(0), 1);
        Checks.promise(55, "h = 7; for each PASSAGE in order");
        Checks.due("digest of none", x.digest(), 7);
        Checks.terms("a MEAN (-2000 .. 2000; 0)");
        for (int station = 0; station < 12; station++) {
            Checks.due("mean of " + station, x.mean(station, 1), 0);
            Checks.due("first wave of " + station, x.wave(station, 0, 0, 0), 1);
        }
        Checks.terms("the last TAKE (1 .. 9; 5 at first)");
        Checks.due("TAKE", x.rule(0, 1), 5);
        Checks.terms("with FADE hours (1 .. 48; 12 at first)");
        Checks.due("FADE", x.rule(1, 1), 12);
        Checks.terms("STEPS (1 .. 60 minutes; 10 at first)");
        Checks.due("STEPS", x.rule(2, 1), 10);
        Checks.terms("FLEETS 0 .. 3 are NOTHING (at first)");
        for (int f = 0; f < 4; f++) {
            Checks.due("member of " + f, x.member(f, 0), Checks.NULL);
        }
        Checks.terms("6 ROUTES 0 .. 5 have LEGS");
        for (int r = 0; r < 6; r++) {
            Checks.due("legs of " + r, x.clear(r), 0);
        }
        Checks.promise(23, "NONE: there is none such.");
        for (int station = 0; station < 12; station++) {
            Checks.due("waters of " + station, x.found(station, 0, 0), NONE);
        }
    }

    /** Of what a new desk has none of each number is BAD, and BAD is no FINDING. */
    private static void nothingIsNamed() {
        Checks.terms("BAD (a number is not as told, or names nothing)");
        TideDesk x = new TideDesk();
        for (int number : new int[] {Checks.LEAST, -2, -1, 0, 1, 9, 39, Checks.MOST}) {
            Checks.dueAll("gauge " + number, BAD, x.reading(number, 0, 0), x.out(number, true), x.out(number, false),
                x.compare(number, 0, 0));
            Checks.due("gauge " + number, x.at(number, 0), Checks.FAR_BAD);
            Checks.due("gauge " + number, x.air(number, 0), NO_FLOAT);
            Checks.due("gauge " + number, x.surge(number, 0), Checks.NO_REAL);
            Checks.due("shoal " + number, x.dredge(number, 0, 0), BAD);
            Checks.due("shoal " + number, x.leg(0, number, 0, NO_FLOAT), BAD);
            Checks.dueAll("shoal " + number, Checks.NO_REAL, x.depth(number, 0, 0), x.water(number, 0));
            Checks.dueAll("ship " + number, BAD, x.ask(number, 0), x.comes(number, 0, 0, 0), x.holds(number, 0, 0),
                x.windows(number, 0, 0, 1), x.passage(number, 0, 0));
            Checks.dueAll("passage " + number, BAD, x.planned(number, 0), x.again(number), x.pass(number));
            if (number != NONE) {
                Checks.dueAll("ship " + number, BAD, x.as(number, 0), x.join(0, 0, number),
                    x.ship(4, 0, 0, 0, number, NONE), x.ship(4, 0, 0, 0, NONE, number));
            }
        }
        Checks.due("FINDINGS", x.count(8), 0);
        Checks.due("finding()", x.finding(), 0);
        Checks.due("tries()", x.tries(), 0);
    }

    private static void lastNames() {
        Checks.terms("2 GAUGES 0 .. 9, of a STATION each");
        TideDesk x = new TideDesk();
        for (int i = 0; i < 10; i++) {
            Checks.due("gauge " + i + " ahead of itself", x.out(i, true), BAD);
            Checks.due("gauge " + i, x.gauge(i, 0, 60), i);
            Checks.due("gauge " + i + " behind itself", x.out(i, true), 1);
        }
        Checks.due("gauge 10", x.out(10, true), BAD);
        Checks.terms("3 SHOALS 0 .. 15, at a STATION each");
        x.survey(0, 0);
        for (int i = 0; i < 16; i++) {
            Checks.due("shoal " + i + " ahead of itself", x.depth(i, 0, 0), Checks.NO_REAL);
            Checks.due("shoal " + i, x.shoal(0, 100 * i, 0), i);
            Checks.due("shoal " + i + " behind itself", x.depth(i, 0, 0), Checks.bits((double) i));
        }
        Checks.due("shoal 16", x.depth(16, 0, 0), Checks.NO_REAL);
        Checks.due("BAD is no FINDING", x.count(8), 0);
        Checks.terms("5 SHIPS 0 .. 39 have a KIND");
        for (int i = 0; i < 40; i++) {
            Checks.due("ship " + i + " ahead of itself", x.as(i, 0), BAD);
            Checks.due("a pair of it", x.ship(4, 0, 0, 0, i, i), BAD);
            Checks.due("ship " + i, x.ship(0, 0, 0, i, 0, 0), i);
            Checks.due("ship " + i + " behind itself", x.as(i, 0), 1);
            Checks.due("its x", x.asked(), i);
        }
        Checks.due("ship 40", x.as(40, 0), BAD);
        Checks.terms("PASSAGES 0 .. 39: a SHIP, a ROUTE, a minute, from which on it may start");
        for (int i = 0; i < 40; i++) {
            Checks.due("passage " + i + " ahead of itself", x.planned(i, 0), BAD);
            Checks.due("passage " + i, x.passage(i, i % 6, i), i);
            Checks.due("passage " + i + " behind itself", x.planned(i, 0), 1);
        }
        Checks.due("passage 40", x.planned(40, 0), BAD);
    }

    /** What is behind the last number is FULL, behind BAD (and NO), and changes nothing. */
    private static void lastNumbersOfAll() {
        Checks.promise(4, "A WAVE more of a DRAFT: how many. BAD; FULL: 8.");
        fullOf(6, x -> x.wave(0, 1, 2, 3), 8, x -> x.wave(0, 9999, 60000, 65535), x -> x.wave(0, 10000, 0, 0));
        Checks.promise(5, "A SURVEY from a DAY (0 .. 29) on: how many of all. BAD; FULL: 60.");
        fullOf(57, x -> x.survey(3, 29), 60, x -> x.survey(0, 29), x -> x.survey(0, 30));
        fullOf(57, x -> x.survey(3, 29), 60, x -> x.survey(11, 0), x -> x.survey(12, 0));
        Checks.promise(9, "A GAUGE: its number. BAD; FULL: 10.");
        fullOf(7, x -> x.gauge(0, 5, 60), 9, x -> x.gauge(7, 0, 60), x -> x.gauge(0, 0, 59));
        Checks.promise(18, "A SHOAL: its number. BAD; FULL: 16.");
        fullOf(12, x -> x.shoal(0, 1, 1), 15, x -> x.shoal(0, 0, 0), x -> x.shoal(0, 0, 7201));
        Checks.promise(19, "how many of all. BAD; FULL: 60.");
        fullOf(58, x -> x.dredge(3, 29, 1), 60, x -> x.dredge(0, 0, 0), x -> x.dredge(0, 30, 0));
        Checks.promise(28, "FULL: 40.");
        fullOf(33, x -> x.ship(1, 1, 1, 1, 0, 0), 39, x -> x.ship(0, 0, 0, 0, 0, 0), x -> x.ship(0, 0, 0, 1001, 0, 0));
        fullOf(33, x -> x.ship(1, 1, 1, 1, 0, 0), 39, x -> x.ship(4, 0, 0, 0, NONE, 39),
            x -> x.ship(4, 0, 0, 0, NONE, 40));
        Checks.promise(38, "A LEG more: how many.");
        fullOf(2, x -> x.leg(1, 1, 100, NO_FLOAT), 4, x -> x.leg(1, 0, 100, 0), x -> x.leg(1, 0, 99, 0));
        Checks.promise(46, "A PASSAGE: its number. BAD; FULL: 40.");
        fullOf(35, x -> x.passage(1, 4, 5), 39, x -> x.passage(0, 0, 0), x -> x.passage(0, 0, 43200));
    }

    /** A harbour in which times acts more were made, the last of which answered so; then one is FULL, one BAD. */
    private static void fullOf(int times, Checks.Act act, int lastAnswer, Checks.Act beyond, Checks.Act bad) {
        List<Long> answers = new ArrayList<>();
        Harbour.with(times, x -> {
            answers.add(act.on(x));
            return 0;
        });
        for (int i = 0; i < times; i++) {
            Checks.due("one more", answers.get(i), lastAnswer - times + 1 + i);
        }
        Checks.Maker full = () -> Harbour.with(times, act);
        Harbour.refused(full, "one beyond the last", Checks.FULL, beyond);
        Harbour.refused(full, "one beyond the last that is BAD", BAD, bad);
    }

    /** A step up at DAY 1 of each STATION, and a HIGH there. */
    private static TideDesk highEverywhere() {
        TideDesk x = new TideDesk();
        x.rule(2, 60);
        for (int station = 0; station < 12; station++) {
            x.survey(station, 0);
            x.mean(station, 100 + station);
            x.survey(station, 1);
            x.waters(station, Checks.DAY - 3600 + 1799, 3);
        }
        return x;
    }

    private static void streamsSideBySide() {
        Checks.terms("STREAM of a STATION at t: a FLOAT of its row of 13");
        TideDesk x = highEverywhere();
        for (int station = 0; station < 12; station++) {
            for (int hour = -6; hour <= 6; hour++) {
                x.tide(station, hour, Checks.bits((float) (station + 0.5 * hour)));
            }
        }
        for (int station = 0; station < 12; station++) {
            for (int hour = -6; hour <= 6; hour++) {
                Checks.due("STREAM of " + station + " in hour " + hour, x.stream(station, Checks.DAY + 3600 * hour),
                    Checks.bits((float) (station + 0.5 * hour)));
            }
        }
        Checks.due("no FINDING", x.count(8), 0);
    }

    private static void watersSideBySide() {
        Checks.terms("4 WATERS of a STATION, as found latest");
        TideDesk x = new TideDesk();
        for (int station = 0; station < 12; station++) {
            x.mean(station, station);
            x.wave(station, 1000 + station, 54613, 0);
            x.survey(station, 0);
            Checks.due("forty", x.waters(station, 600 * station, 200), 40);
        }
        for (int station = 0; station < 12; station++) {
            Checks.dueTrue("the first", Math.abs(x.found(station, 0, 0) - 600 * (station + 1)) <= 600);
            Checks.dueTrue("the last", Math.abs(x.found(station, 39, 0) - 600 * (station + 40)) <= 600);
            Checks.due("HIGH and LOW", x.found(station, 0, 1) + x.found(station, 39, 1), 1);
            Checks.due("the first is as it must be", x.found(station, 0, 1), station % 2);
            Checks.dueTrue("the last RANGE", x.range(station, 38) != Checks.NO_REAL);
            Checks.due("none behind", x.found(station, 40, 0), NONE);
        }
        Checks.due("no FINDING", x.count(8), 0);
    }

    private static void wavesSideBySide() {
        Checks.terms("STATIONS 0 .. 11 have a DRAFT");
        TideDesk x = new TideDesk();
        for (int station = 0; station < 12; station++) {
            x.mean(station, station);
        }
        for (int wave = 1; wave <= 8; wave++) {
            for (int station = 11; station >= 0; station--) {
                Checks.due("wave", x.wave(station, 100 * wave + station, 1000 * wave, 500 * station), wave);
            }
        }
        for (int station = 0; station < 12; station++) {
            x.survey(station, 0);
        }
        for (int station = 0; station < 12; station++) {
            double h = station / 100.0;
            for (int wave = 1; wave <= 8; wave++) {
                h = h + (100 * wave + station) / 1000.0 * Checks.cosOf(500 * station + 1000L * wave * 777 / 1000);
            }
            Checks.due("HEIGHT of " + station, x.height(station, 777, 0), Checks.bits(h));
        }
    }

    private static void readingsSideBySide() {
        Checks.terms("READING i, 120 at most, is of the MOMENT first + i * STEP");
        for (int gauge = 0; gauge < 9; gauge += 8) {
            TideDesk x = new TideDesk();
            for (int i = 0; i < 10; i++) {
                x.gauge(i, 0, 60);
            }
            x.clock(Checks.DAY);
            for (int i = 0; i < 120; i++) {
                Checks.due("reading", x.reading(gauge, i, i + 1), i + 1);
                Checks.due("reading", x.reading(gauge + 1, 1000 + i, 2000 + i), i + 1);
            }
            for (int i : new int[] {0, 1, 118, 119}) {
                Checks.due("at", x.at(gauge, i), i);
                Checks.due("air", x.air(gauge, i), i + 1);
                Checks.due("at", x.at(gauge + 1, i), 1000 + i);
                Checks.due("air", x.air(gauge + 1, i), 2000 + i);
            }
        }
    }

    private static void placesSideBySide() {
        Checks.terms("FLEETS 0 .. 3 are NOTHING (at first) or rows of n (0 .. 8) places");
        TideDesk x = new TideDesk();
        for (int ship = 0; ship < 32; ship++) {
            x.ship(1, 0, 0, ship, 0, 0);
        }
        for (int f = 3; f >= 0; f--) {
            x.fleet(f, 1, 8);
            for (int i = 0; i < 8; i++) {
                x.join(f, i, 8 * f + i);
            }
        }
        for (int f = 0; f < 4; f++) {
            for (int i = 0; i < 8; i++) {
                Checks.due("member(" + f + ", " + i + ")", x.member(f, i), 8 * f + i);
            }
            Checks.due("shared", x.shared(f, 80), 1);
            Checks.due("by eight", x.asked(), 10);
        }
        Checks.due("of the last one, to the first", x.move(3, 7, 0, 7, 1), 1);
        Checks.due("the last place", x.member(0, 7), 31);
        Checks.due("the first of the next", x.member(1, 0), 8);
    }
}
