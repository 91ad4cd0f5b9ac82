/** 2 GAUGES: READINGS, rows that are out, AIR, SURGES. */
final class BoundsOfGauges {
    private static final int DAY = Checks.DAY, LAST = Checks.LAST, NO_FLOAT = Checks.NO_FLOAT;

    private BoundsOfGauges() {
    }

    static void run() {
        steps();
        readingsAboveNow();
        readingsThatFill();
        rowsThatAreOut();
        rowsAsLongAsWhatCame();
        noNumberInTheAir();
        comparisons();
        taken();
        thoseThatAreThere();
        middles();
        ages();
        lacking();
    }

    private static void steps() {
        Checks.promise(9, "A GAUGE: its number. BAD; FULL: 10.");
        TideDesk x = new TideDesk();
        Checks.due("the first MOMENT and STEP", x.gauge(0, 0, 60), 0);
        Checks.due("the last MOMENT and STEP", x.gauge(11, LAST, 7200), 1);
        Checks.due("one at a STATION that has one", x.gauge(0, 0, 60), 2);
        Checks.dueAll("BAD", Checks.BAD, x.gauge(0, -1, 60), x.gauge(0, LAST + 1, 60), x.gauge(0, 0, 59),
            x.gauge(0, 0, 7201), x.gauge(-1, 0, 60), x.gauge(12, 0, 60));
        Checks.due("how many", x.count(2), 3);
    }

    private static void readingsAboveNow() {
        Checks.terms("READING i, 120 at most, is of the MOMENT first + i * STEP:");
        Checks.promise(10, "NO: its MOMENT is above NOW.");
        for (int step : new int[] {60, 7200}) {
            TideDesk x = new TideDesk();
            x.gauge(0, 1000, step);
            for (int i = 0; i < 3; i++) {
                x.clock(1000 + i * step - 1);
                Checks.due("a second ahead", x.reading(0, i, 0), Checks.NO);
                x.clock(1000 + i * step);
                Checks.due("at its MOMENT", x.reading(0, i, 0), i + 1);
            }
            Checks.due("the next", x.reading(0, 9, 0), Checks.NO);
            Checks.due("BAD ahead of NO", x.reading(0, 32768, 0), Checks.BAD);
            Checks.due("BAD ahead of NO", x.reading(1, 0, 0), Checks.BAD);
            Checks.due("NO is no FINDING", x.count(8), 0);
            Checks.due("NO adds none", x.at(0, 3), -100002);
        }
        TideDesk last = new TideDesk();
        last.gauge(0, LAST, 60);
        last.clock(LAST);
        Checks.due("at the last MOMENT", last.reading(0, 0, 0), 1);
        Checks.due("beyond all MOMENTS", last.reading(0, 0, 0), Checks.NO);
        TideDesk far = new TideDesk();
        far.gauge(0, LAST - 2 * 7200, 7200);
        far.clock(LAST);
        for (int i = 1; i <= 3; i++) {
            Checks.due("the last three", far.reading(0, 0, 0), i);
        }
        Checks.due("beyond all MOMENTS", far.reading(0, 0, 0), Checks.NO);
        // The harbour's NOW is behind the second READING of gauge 1, and ahead of the third.
        Harbour.refused(() -> Harbour.with(1, x -> x.reading(1, 5, 5)), "the third", Checks.NO, x -> x.reading(1, 5, 5));
    }

    private static TideDesk filled(int now) {
        TideDesk x = new TideDesk();
        x.gauge(0, 100, 60);
        x.gauge(0, 100, 60);
        x.clock(now);
        for (int i = 0; i < 120; i++) {
            x.reading(0, i, i);
        }
        return x;
    }

    private static void readingsThatFill() {
        Checks.promise(10, "A READING (air: BITS; all that are no number are NO NUMBER): how many.");
        TideDesk x = new TideDesk();
        x.gauge(0, 0, 60);
        x.clock(DAY);
        for (int i = 1; i <= 120; i++) {
            Checks.due("how many", x.reading(0, -i, i), i);
        }
        Checks.promise(10, "FULL: 120 (also of one that is OUT). NULL.");
        Checks.due("the 121st", x.reading(0, 0, 0), Checks.FULL);
        Checks.due("BAD ahead of FULL", x.reading(0, 32768, 0), Checks.BAD);
        Checks.due("the 120th stays", x.at(0, 119), -120);
        Checks.due("and its AIR", x.air(0, 119), 120);
        Checks.due("there is no 121st", x.at(0, 120), -100002);
        int findings = x.count(8);
        x.out(0, true);
        Checks.due("OUT", x.reading(0, 0, 0), Checks.FULL);
        Checks.due("BAD ahead of FULL", x.reading(0, -32769, 0), Checks.BAD);
        Checks.due("FULL is no FINDING", x.count(8), findings);
        x.out(0, false);
        Checks.due("in again", x.reading(0, 0, 0), Checks.FULL);
        TideDesk y = filled(100 + 120 * 60 - 1);
        Checks.due("the 121st is above NOW: NO ahead of FULL", y.reading(0, 0, 0), Checks.NO);
        y.out(0, true);
        Checks.due("OUT, too", y.reading(0, 0, 0), Checks.NO);
        y.clock(100 + 120 * 60);
        Checks.due("then it is FULL", y.reading(0, 0, 0), Checks.FULL);
        Checks.due("another GAUGE is not", y.reading(1, 0, 0), 1);
        TideDesk z = filled(LAST);
        Checks.due("all came", z.at(0, 119), 119);
        Checks.due("the 121st", z.reading(0, 0, 0), Checks.FULL);
    }

    private static void rowsThatAreOut() {
        Checks.terms("A GAUGE that is OUT has no rows (NULL); in again it has them as they were.");
        Harbour.found(Harbour::make, "reading", Checks.NULL, 1, x -> x.reading(2, 0, 0));
        Harbour.found(Harbour::make, "at", -100001, 1, x -> x.at(2, 0));
        Harbour.found(Harbour::make, "at, beyond", -100001, 1, x -> x.at(2, 1));
        Harbour.found(Harbour::make, "at, below", -100001, 1, x -> x.at(2, -1));
        Harbour.found(Harbour::make, "air", NO_FLOAT, 1, x -> x.air(2, 0));
        Harbour.found(Harbour::make, "air, beyond", NO_FLOAT, 1, x -> x.air(2, 99));
        Harbour.found(Harbour::make, "compare", Checks.NULL, 1, x -> x.compare(2, 0, 0));
        Harbour.found(Harbour::make, "compare, beyond", Checks.NULL, 1, x -> x.compare(2, 9, 9));
        Harbour.found(Harbour::make, "surge", Checks.NO_REAL, 1, x -> x.surge(2, 90000));
        TideDesk x = new TideDesk();
        x.gauge(0, 50, 60);
        x.gauge(1, 50, 60);
        x.clock(1000);
        x.reading(0, 11, 12);
        x.out(0, true);
        x.clock(2000);
        Checks.due("OUT", x.reading(0, 13, 14), Checks.NULL);
        Checks.due("another one is in", x.reading(1, 13, 14), 1);
        x.out(0, false);
        Checks.due("as it was", x.at(0, 0), 11);
        Checks.due("as it was", x.air(0, 0), 12);
        Checks.due("as long as it was", x.at(0, 1), -100002);
        Checks.due("the second", x.reading(0, 13, 14), 2);
        Checks.promise(10, "NO: its MOMENT is above NOW.");
        TideDesk y = new TideDesk();
        y.gauge(0, 50, 60);
        y.out(0, true);
        Checks.due("OUT and above NOW", y.reading(0, 0, 0), Checks.NO);
        Checks.due("NO is no FINDING", y.finding(), 0);
        y.clock(50);
        Checks.due("OUT", y.reading(0, 0, 0), Checks.NULL);
        Checks.due("NULL", y.finding(), 1);
        Checks.promise(11, "A GAUGE is OUT, or in: 1; 0: it was so. BAD.");
        TideDesk z = new TideDesk();
        z.gauge(0, 0, 60);
        Checks.due("in at first", z.out(0, false), 0);
        Checks.due("out", z.out(0, true), 1);
        Checks.due("out still", z.out(0, true), 0);
        Checks.due("in", z.out(0, false), 1);
        Checks.due("in still", z.out(0, false), 0);
        Checks.dueAll("BAD", Checks.BAD, z.out(-1, true), z.out(1, false));
        Checks.due("an empty one, in again", z.reading(0, 5, 5), 1);
    }

    private static void rowsAsLongAsWhatCame() {
        Checks.terms("in rows as long as what came.");
        Checks.promise(12, "The SHORT of READING i.");
        Checks.promise(12, "NULL, INDEX (not yet): -100000 less the FINDING.");
        for (int i : new int[] {3, -1, 119, 120, Checks.MOST, Checks.LEAST}) {
            Harbour.found(Harbour::make, "at(0, " + i + ")", -100002, 2, x -> x.at(0, i));
        }
        Checks.promise(13, "AIR of READING i: its BITS. BAD, NULL, INDEX.");
        for (int i : new int[] {3, -1, 119, 120, Checks.MOST, Checks.LEAST}) {
            Harbour.found(Harbour::make, "air(0, " + i + ")", NO_FLOAT, 2, x -> x.air(0, i));
        }
        Checks.promise(14, "BAD; NULL; INDEX.");
        for (int i : new int[] {3, -1, 119, 120, Checks.MOST, Checks.LEAST}) {
            Harbour.found(Harbour::make, "compare(0, " + i + ", 0)", Checks.INDEX, 2, x -> x.compare(0, i, 0));
            Harbour.found(Harbour::make, "compare(0, 0, " + i + ")", Checks.INDEX, 2, x -> x.compare(0, 0, i));
        }
        TideDesk x = new TideDesk();
        x.gauge(0, 0, 60);
        x.gauge(0, 0, 60);
        Checks.due("an empty row", x.at(0, 0), -100002);
        x.clock(60);
        x.reading(1, 8, 9);
        Checks.due("the row of another one", x.at(0, 0), -100002);
        x.reading(0, 32767, 0);
        x.reading(0, -32768, 0);
        Checks.due("the greatest", x.at(0, 0), 32767);
        Checks.due("none", x.at(0, 1), -32768);
        Checks.due("not yet", x.at(0, 2), -100002);
    }

    private static void noNumberInTheAir() {
        Checks.terms("a SHORT (hundredths; -32768: none) and AIR (a FLOAT, perhaps NO NUMBER),");
        Checks.terms("NO NUMBER has the BITS 9221120237041090560, as a FLOAT 2143289344.");
        TideDesk x = new TideDesk();
        x.gauge(0, 0, 60);
        x.clock(DAY);
        int[] numbers = {0, 0x80000000, 1, 0x80000001, 0x7f7fffff, 0xff7fffff, 0x7f800000, 0xff800000};
        int[] others = {0x7f800001, 0x7fbfffff, 0x7fc00000, 0x7fc00001, 0x7fffffff, 0xff800001, 0xffc00000, 0xffffffff};
        for (int air : numbers) {
            x.reading(0, 0, air);
        }
        for (int air : others) {
            x.reading(0, 0, air);
        }
        for (int i = 0; i < 8; i++) {
            Checks.due("air " + i, x.air(0, i), numbers[i]);
            Checks.due("no number " + i, x.air(0, 8 + i), NO_FLOAT);
        }
        Checks.due("that is no FINDING", x.count(8), 0);
    }

    private static void comparisons() {
        Checks.promise(14, "AIR of READINGS i, j: 1 if the first is below (<) the second, 2 not above (<=), 4 above,"
            + " 8 not below, 16 alike (==), 32 unlike, together.");
        TideDesk x = new TideDesk();
        x.gauge(0, 0, 60);
        x.clock(DAY);
        float[] airs = {Float.NEGATIVE_INFINITY, -Float.MAX_VALUE, -1.0f, -Float.MIN_VALUE, 0.0f, Float.MIN_VALUE, 1.0f,
            Float.MAX_VALUE, Float.POSITIVE_INFINITY};
        for (float air : airs) {
            x.reading(0, 0, Checks.bits(air));
        }
        x.reading(0, 0, 0x80000000);
        x.reading(0, 0, NO_FLOAT);
        for (int i = 0; i < airs.length; i++) {
            for (int j = 0; j < airs.length; j++) {
                int want = i < j ? 1 + 2 + 32 : i > j ? 4 + 8 + 32 : 2 + 8 + 16;
                Checks.due(airs[i] + " and " + airs[j], x.compare(0, i, j), want);
            }
            Checks.due("no number behind", x.compare(0, i, 10), 32);
            Checks.due("no number ahead", x.compare(0, 10, i), 32);
        }
        Checks.due("no number twice", x.compare(0, 10, 10), 32);
        Checks.due("0.0 and -0.0", x.compare(0, 4, 9), 2 + 8 + 16);
        Checks.due("-0.0 and 0.0", x.compare(0, 9, 4), 2 + 8 + 16);
        Checks.due("-0.0 and the least above", x.compare(0, 9, 5), 1 + 2 + 32);
        Checks.due("-0.0 and the greatest below", x.compare(0, 9, 3), 4 + 8 + 32);
    }

    /** A GAUGE of STATION 0, whose SURVEY is flat, with READINGS at 0, 60, 120 and so on. */
    private static TideDesk gauged(int... shorts) {
        TideDesk x = new TideDesk();
        x.survey(0, 0);
        x.gauge(0, 0, 60);
        x.clock(DAY);
        for (int v : shorts) {
            x.reading(0, v, 0);
        }
        return x;
    }

    private static double faded(int v, int age, int fade) {
        return v / 100.0 * ((fade * 3600 - age) / (fade * 3600.0));
    }

    private static void taken() {
        Checks.terms("SURGE of a GAUGE at t: of its READINGS of MOMENTS at t or before the last TAKE (1 .. 9; 5 at first);");
        TideDesk x = gauged(1000, 900, 800, 700, 600, 500, 400, 300, 200, 100, 50);
        Checks.due("five at first", x.surge(0, 600), Checks.bits(faded(200, 0, 12)));
        Checks.due("a second before the last", x.surge(0, 599), Checks.bits(faded(300, 59, 12)));
        Checks.due("one alone", x.surge(0, 59), Checks.bits(faded(1000, 59, 12)));
        Checks.due("two", x.surge(0, 60), Checks.bits(faded(900, 0, 12)));
        Checks.due("four, all there are", x.surge(0, 239), Checks.bits(faded(800, 59, 12)));
        Checks.due("five, all there are", x.surge(0, 240), Checks.bits(faded(800, 0, 12)));
        Checks.due("the first is not taken", x.surge(0, 300), Checks.bits(faded(700, 0, 12)));
        x.rule(0, 1);
        Checks.due("the last alone", x.surge(0, 600), Checks.bits(faded(50, 0, 12)));
        Checks.due("the one before it alone", x.surge(0, 599), Checks.bits(faded(100, 59, 12)));
        x.rule(0, 9);
        Checks.due("nine", x.surge(0, 600), Checks.bits(faded(400, 0, 12)));
        Checks.due("nine", x.surge(0, 480), Checks.bits(faded(600, 0, 12)));
        Checks.due("eight, all there are", x.surge(0, 479), Checks.bits(faded(600, 59, 12)));
        Checks.due("nine still", x.rule(0, 10), Checks.BAD);
        Checks.due("nine still", x.rule(0, 0), Checks.BAD);
        Checks.due("nine still", x.rule(0, 2), 9);
        Checks.due("two: the lesser", x.surge(0, 600), Checks.bits(faded(50, 0, 12)));
        TideDesk late = new TideDesk();
        late.survey(0, 0);
        late.gauge(0, 1000, 7200);
        late.clock(1000);
        late.reading(0, 700, 0);
        Checks.due("before the first", late.surge(0, 999), Checks.NO_REAL);
        Checks.due("LACK", late.finding(), 7);
        Checks.due("at the first", late.surge(0, 1000), Checks.bits(7.0));
    }

    private static void thoseThatAreThere() {
        Checks.terms("of those that are there (not -32768, a SURVEY being IN FORCE for their MOMENT as KNOWN NOW)"
            + " SHORT / 100.0 less HEIGHT at it, in order;");
        TideDesk x = gauged(-32768, -32767, 32767);
        Checks.due("-32768 is none", x.surge(0, 0), Checks.NO_REAL);
        Checks.due("-32767 is one", x.surge(0, 60), Checks.bits(-32767 / 100.0));
        x.rule(0, 1);
        Checks.due("32767 is one", x.surge(0, 120), Checks.bits(32767 / 100.0));
        TideDesk y = new TideDesk();
        y.gauge(0, DAY - 60, 60);
        y.clock(DAY);
        y.reading(0, 500, 0);
        y.reading(0, 300, 0);
        y.mean(0, 100);
        y.survey(0, 1);
        Checks.due("one is of a DAY with a SURVEY", y.surge(0, DAY), Checks.bits(2.0));
        Checks.due("one is not there", y.lacking(), 1);
        Checks.due("a second before", y.surge(0, DAY - 1), Checks.NO_REAL);
        Checks.due("LACK", y.finding(), 7);
        y.clock(DAY + 1);
        y.mean(0, 50);
        y.survey(0, 0);
        Checks.due("as KNOWN NOW both are there", y.surge(0, DAY), Checks.bits(2.0));
        Checks.due("none lacks", y.lacking(), 0);
        Checks.due("as KNOWN NOW", y.surge(0, DAY - 1), Checks.bits((500 / 100.0 - 50 / 100.0) * ((43200 - 59) / 43200.0)));
    }

    private static void middles() {
        Checks.terms("the MIDDLE of these by size (of like ones as they came; of even many the lesser).");
        int[][] orders = {{3}, {3, 1}, {1, 3}, {3, 1, 2}, {1, 2, 3}, {2, 3, 1}, {4, 1, 3, 2}, {1, 2, 3, 4}, {4, 3, 2, 1},
            {2, 2}, {2, 2, 1}, {1, 2, 2}, {5, 1, 4, 2, 3}, {-1, -3, -2}, {-1, 1}};
        int[] due = {3, 1, 1, 2, 2, 2, 2, 2, 2, 2, 2, 2, 3, -2, -1};
        for (int i = 0; i < orders.length; i++) {
            int[] shorts = orders[i].clone();
            for (int j = 0; j < shorts.length; j++) {
                shorts[j] *= 100;
            }
            TideDesk x = gauged(shorts);
            Checks.due("order " + i, x.surge(0, 60 * (shorts.length - 1)), Checks.bits((double) due[i]));
        }
        TideDesk x = gauged(100, -32768, 300, -32768, 200);
        Checks.due("three of five", x.surge(0, 240), Checks.bits(2.0));
        TideDesk nine = gauged(9, 1, 8, 2, 7, 3, 6, 4, 5);
        nine.rule(0, 9);
        Checks.due("nine", nine.surge(0, 480), Checks.bits(0.05));
        nine.rule(0, 8);
        Checks.due("eight of nine: the lesser", nine.surge(0, 480), Checks.bits(0.04));
    }

    private static void ages() {
        Checks.terms("Then, with age being t less the MOMENT of the last that is there: with FADE hours (1 .. 48;"
            + " 12 at first) or more 0.0, else MIDDLE * ((FADE * 3600 - age) / (FADE * 3600.0)).");
        TideDesk x = gauged(500, 700, -32768);
        int last = 60;
        for (int fade : new int[] {12, 1, 2, 47, 48}) {
            if (fade != 12) {
                x.rule(1, fade);
            }
            Checks.due("a second old", x.surge(0, last + 1), Checks.bits(faded(500, 1, fade)));
            Checks.due("the gap is not the last", x.surge(0, 120), Checks.bits(faded(500, 60, fade)));
            Checks.due("a second before the end", x.surge(0, last + fade * 3600 - 1),
                Checks.bits(faded(500, fade * 3600 - 1, fade)));
            Checks.due("at the end", x.surge(0, last + fade * 3600), Checks.bits(0.0));
            Checks.due("behind the end", x.surge(0, last + fade * 3600 + 1), Checks.bits(0.0));
            Checks.due("at the last MOMENT", x.surge(0, LAST), Checks.bits(0.0));
        }
        Checks.due("faded is no FINDING", x.count(8), 0);
        TideDesk below = gauged(-500);
        Checks.due("below 0.0, faded", below.surge(0, 43200), Checks.bits(0.0));
        Checks.due("below 0.0", below.surge(0, 43199), Checks.bits(faded(-500, 43199, 12)));
    }

    private static void lacking() {
        Checks.terms("LACK: none is there.");
        Checks.promise(16, "BAD; NULL, LACK.");
        Checks.promise(17, "How many of the READINGS that the latest surge() without BAD, FULL, NULL looked at were not"
            + " there (WATER's SURGES apart); 0 before.");
        TideDesk x = gauged(-32768, -32768, 5, -32768, -32768, -32768, -32768, -32768, -32768);
        Checks.due("before", x.lacking(), 0);
        Checks.due("one, and it is not there", x.surge(0, 0), Checks.NO_REAL);
        Checks.due("LACK", x.finding(), 7);
        Checks.due("one", x.lacking(), 1);
        x.surge(0, 60);
        Checks.due("two", x.lacking(), 2);
        Checks.due("one of seven is there", x.surge(0, 360), Checks.bits(faded(5, 240, 12)));
        Checks.due("four of five", x.lacking(), 4);
        Checks.due("none of five", x.surge(0, 420), Checks.NO_REAL);
        Checks.due("five", x.lacking(), 5);
        x.surge(0, 120);
        Checks.due("two of three", x.lacking(), 2);
        x.surge(0, -1);
        x.surge(0, LAST + 1);
        x.surge(1, 0);
        Checks.due("BAD leaves it", x.lacking(), 2);
        x.out(0, true);
        x.surge(0, 0);
        Checks.due("NULL leaves it", x.lacking(), 2);
        x.out(0, false);
        x.shoal(0, 0, 0);
        x.water(0, 420);
        x.water(0, 0);
        Checks.due("WATER leaves it", x.lacking(), 2);
        x.gauge(0, 0, 60);
        x.surge(1, 0);
        Checks.due("none looked at", x.lacking(), 0);
        Checks.due("that is LACK", x.finding(), 7);
        Checks.promise(16, "SURGE at t. BAD; NULL, LACK.");
        Harbour.refused(Harbour::make, "BAD", Checks.NO_REAL, y -> y.surge(0, LAST + 1));
        Harbour.found(Harbour::make, "NULL", Checks.NO_REAL, 1, y -> y.surge(2, 90000));
    }
}
