/** 5 FLEETS: rows, what they take, moves from one to another, shares. */
final class BoundsOfFleets {
    private static final int NONE = Checks.NONE;

    private BoundsOfFleets() {
    }

    static void run() {
        places();
        sizes();
        sorts();
        joins();
        members();
        movesBeyond();
        movesWithin();
        movesThatDoNotGo();
        shares();
    }

    /** SHIPS 0 .. 4 of those KINDS. */
    private static TideDesk ofAllKinds() {
        TideDesk x = new TideDesk();
        for (int kind = 0; kind < 5; kind++) {
            x.ship(kind, 0, 0, 0, NONE, NONE);
        }
        return x;
    }

    private static void standing(String what, TideDesk x, int f, int... ships) {
        for (int i = 0; i < ships.length; i++) {
            Checks.due(what + ", member(" + f + ", " + i + ")", x.member(f, i), ships[i]);
        }
        Checks.due(what + ", no more", x.member(f, ships.length), Checks.INDEX);
    }

    private static void places() {
        Checks.terms("FLEETS 0 .. 3 are NOTHING (at first) or rows of n (0 .. 8) places for SHIPS of a SORT: 0 to 4 those"
            + " that are of that KIND, 5 all; NOTHING in each.");
        Checks.promise(33, "A FLEET of a SORT, with n places: 1.");
        TideDesk x = ofAllKinds();
        for (int n : new int[] {0, 1, 8}) {
            for (int f = 0; f < 4; f++) {
                Checks.due("fleet", x.fleet(f, 5, n), 1);
                for (int i = 0; i < n; i++) {
                    Checks.due("NOTHING in each", x.member(f, i), NONE);
                }
                Checks.due("behind the last place", x.member(f, n), Checks.INDEX);
                Checks.due("ahead of the first", x.member(f, -1), Checks.INDEX);
                Checks.due("behind the last place", x.join(f, n, 0), Checks.INDEX);
                Checks.due("ahead of the first", x.join(f, -1, 0), Checks.INDEX);
            }
        }
        x.join(3, 7, 4);
        x.fleet(3, 5, 8);
        Checks.due("anew: NOTHING in each", x.member(3, 7), NONE);
        x.join(3, 7, 4);
        x.fleet(3, 5, 3);
        x.fleet(3, 5, 8);
        Checks.due("shorter and longer again: NOTHING in each", x.member(3, 7), NONE);
    }

    private static void sizes() {
        Checks.terms("5 SIZE (fewer than none)");
        Checks.promise(33, "BAD: n above 8; SIZE.");
        for (int n : new int[] {-1, -2, -9, Checks.LEAST}) {
            Harbour.found(Harbour::make, "fewer than none", Checks.SIZE, 5, x -> x.fleet(0, 0, n));
            Harbour.found(Harbour::make, "fewer than none, of one that is NOTHING", Checks.SIZE, 5, x -> x.fleet(3, 5, n));
            Harbour.refused(Harbour::make, "BAD ahead of SIZE", Checks.BAD, x -> x.fleet(0, 6, n));
            Harbour.refused(Harbour::make, "BAD ahead of SIZE", Checks.BAD, x -> x.fleet(4, 0, n));
        }
        Harbour.refused(Harbour::make, "above 8", Checks.BAD, x -> x.fleet(0, 0, 9));
    }

    private static void sorts() {
        Checks.terms("for SHIPS of a SORT: 0 to 4 those that are of that KIND, 5 all;");
        boolean[][] takes = {{true, false, true, false, false}, {false, true, false, true, false},
            {false, false, true, false, false}, {false, false, false, true, false}, {false, false, false, false, true},
            {true, true, true, true, true}};
        TideDesk x = ofAllKinds();
        for (int sort = 0; sort < 6; sort++) {
            x.fleet(1, sort, 8);
            for (int ship = 0; ship < 5; ship++) {
                int findings = x.count(8);
                Checks.due(ship + " in " + sort, x.join(1, 7, ship), takes[sort][ship] ? 1 : Checks.STORE);
                Checks.due("a FINDING, or none", x.count(8) - findings, takes[sort][ship] ? 0 : 1);
                Checks.due("NOTHING goes in all", x.join(1, 7, NONE), 1);
            }
        }
    }

    private static void joins() {
        Checks.promise(34, "Place i of a FLEET gets a SHIP (NONE: NOTHING): 1. BAD; NULL, INDEX, STORE.");
        Harbour.found(Harbour::make, "NULL", Checks.NULL, 1, x -> x.join(3, 0, 0));
        Harbour.found(Harbour::make, "NULL ahead of INDEX", Checks.NULL, 1, x -> x.join(3, 9, 0));
        Harbour.found(Harbour::make, "NULL, of NOTHING", Checks.NULL, 1, x -> x.join(3, -1, NONE));
        for (int i : new int[] {3, -1, 8, Checks.MOST, Checks.LEAST}) {
            Harbour.found(Harbour::make, "INDEX", Checks.INDEX, 2, x -> x.join(1, i, 0));
            Harbour.found(Harbour::make, "INDEX ahead of STORE", Checks.INDEX, 2, x -> x.join(1, i, 1));
            Harbour.found(Harbour::make, "INDEX, of NOTHING", Checks.INDEX, 2, x -> x.join(1, i, NONE));
        }
        Harbour.found(Harbour::make, "INDEX of an empty row", Checks.INDEX, 2, x -> x.join(2, 0, 2));
        Harbour.found(Harbour::make, "STORE", Checks.STORE, 6, x -> x.join(1, 0, 1));
        Harbour.found(Harbour::make, "STORE", Checks.STORE, 6, x -> x.join(1, 2, 4));
        Harbour.refused(Harbour::make, "BAD ahead of NULL", Checks.BAD, x -> x.join(3, 0, 7));
        Harbour.refused(Harbour::make, "BAD ahead of INDEX", Checks.BAD, x -> x.join(1, 9, -2));
        TideDesk x = ofAllKinds();
        x.fleet(0, 5, 8);
        x.fleet(1, 5, 8);
        Checks.due("the first place", x.join(0, 0, 4), 1);
        Checks.due("the last place", x.join(0, 7, 4), 1);
        Checks.due("in another FLEET, too", x.join(1, 0, 4), 1);
        standing("those alone", x, 0, 4, NONE, NONE, NONE, NONE, NONE, NONE, 4);
        x.join(0, 0, NONE);
        standing("NOTHING again", x, 0, NONE, NONE, NONE, NONE, NONE, NONE, NONE, 4);
    }

    private static void members() {
        Checks.promise(35, "The SHIP at place i; NONE. BAD; NULL, INDEX.");
        Harbour.found(Harbour::make, "NULL", Checks.NULL, 1, x -> x.member(3, 0));
        Harbour.found(Harbour::make, "NULL ahead of INDEX", Checks.NULL, 1, x -> x.member(3, -1));
        for (int i : new int[] {3, -1, 8, Checks.MOST, Checks.LEAST}) {
            Harbour.found(Harbour::make, "INDEX", Checks.INDEX, 2, x -> x.member(1, i));
        }
        Harbour.found(Harbour::make, "INDEX of an empty row", Checks.INDEX, 2, x -> x.member(2, 0));
        Harbour.refused(Harbour::make, "BAD", Checks.BAD, x -> x.member(4, 0));
    }

    private static void movesBeyond() {
        Checks.promise(36, "BAD; NULL: either;");
        Harbour.found(Harbour::make, "the first", Checks.NULL, 1, x -> x.move(3, 0, 0, 0, 0));
        Harbour.found(Harbour::make, "the second", Checks.NULL, 1, x -> x.move(0, 0, 3, 0, 0));
        Harbour.found(Harbour::make, "both", Checks.NULL, 1, x -> x.move(3, 0, 3, 0, 0));
        Harbour.found(Harbour::make, "NULL ahead of INDEX", Checks.NULL, 1, x -> x.move(0, -1, 3, -1, -1));
        Harbour.found(Harbour::make, "NULL ahead of INDEX", Checks.NULL, 1, x -> x.move(3, 9, 0, 9, 9));
        Harbour.refused(Harbour::make, "BAD ahead of NULL", Checks.BAD, x -> x.move(3, 0, 4, 0, 0));
        Harbour.refused(Harbour::make, "BAD ahead of NULL", Checks.BAD, x -> x.move(-1, 0, 3, 0, 0));
        Checks.promise(36, "INDEX: i, j, n below 0, or beyond;");
        int most = Checks.MOST;
        int least = Checks.LEAST;
        // Fleet 0 has 4 places, fleet 1 has 3, fleet 2 none.
        int[][] beyond = {{0, -1, 1, 0, 1}, {0, 0, 1, -1, 1}, {0, 0, 1, 0, -1}, {0, 0, 1, 0, 4}, {0, 0, 0, 0, 5},
            {0, 4, 1, 0, 1}, {0, 5, 1, 0, 0}, {0, 0, 1, 4, 0}, {0, 0, 1, 3, 1}, {0, 2, 1, 0, 3}, {0, 0, 1, 1, 3},
            {2, 0, 0, 0, 1}, {0, 0, 2, 0, 1}, {2, 1, 0, 0, 0}, {0, 0, 2, 1, 0}, {0, most, 1, 0, 1}, {0, 0, 1, most, 1},
            {0, 0, 1, 0, most}, {0, most, 1, most, most}, {0, 1, 1, 1, most}, {0, least, 1, 0, 0}, {0, 0, 1, least, 0},
            {0, 0, 1, 0, least}, {0, least, 1, 0, most}, {0, -1, 1, 0, 0}, {0, 0, 1, -1, 0}, {0, 5, 1, 0, -1}};
        for (int[] b : beyond) {
            Harbour.found(Harbour::make, "move(" + b[0] + ", " + b[1] + ", " + b[2] + ", " + b[3] + ", " + b[4] + ")",
                Checks.INDEX, 2, x -> x.move(b[0], b[1], b[2], b[3], b[4]));
        }
        Checks.promise(36, "INDEX: i, j, n below 0, or beyond; STORE");
        Harbour.found(Harbour::make, "INDEX ahead of STORE", Checks.INDEX, 2, x -> x.move(0, 3, 1, 0, 2));
    }

    private static void movesWithin() {
        Checks.promise(36, "n places of a FLEET from i on come to those of another one (perhaps itself) from j on, as they"
            + " were: n.");
        TideDesk x = ofAllKinds();
        x.fleet(0, 5, 8);
        x.fleet(1, 5, 8);
        x.fleet(2, 5, 0);
        int[] all = {0, 1, 2, 3, 4, NONE, 1, 2};
        for (int i = 0; i < 8; i++) {
            x.join(0, i, all[i]);
        }
        Checks.due("none, of none", x.move(2, 0, 2, 0, 0), 0);
        Checks.due("none, behind the last", x.move(0, 8, 1, 8, 0), 0);
        Checks.due("none, to none", x.move(0, 8, 2, 0, 0), 0);
        Checks.due("the last to the first", x.move(0, 7, 1, 0, 1), 1);
        Checks.due("the first to the last", x.move(0, 0, 1, 7, 1), 1);
        standing("these alone", x, 1, 2, NONE, NONE, NONE, NONE, NONE, NONE, 0);
        Checks.due("all", x.move(0, 0, 1, 0, 8), 8);
        standing("all came", x, 1, all);
        standing("and stay", x, 0, all);
        Checks.due("itself, a place on", x.move(0, 0, 0, 1, 7), 7);
        standing("as they were", x, 0, 0, 0, 1, 2, 3, 4, NONE, 1);
        Checks.due("itself, a place back", x.move(1, 1, 1, 0, 7), 7);
        standing("as they were", x, 1, 1, 2, 3, 4, NONE, 1, 2, 2);
        Checks.due("itself, to itself", x.move(1, 0, 1, 0, 8), 8);
        standing("as they were", x, 1, 1, 2, 3, 4, NONE, 1, 2, 2);
        Checks.due("no FINDINGS but by looking", x.finding(), 2);
    }

    private static void movesThatDoNotGo() {
        Checks.promise(36, "STORE: the first that does not go: those ahead of it have come.");
        TideDesk x = ofAllKinds();
        x.fleet(0, 5, 6);
        int[] all = {0, 2, NONE, 1, 2, 0};
        for (int i = 0; i < 6; i++) {
            x.join(0, i, all[i]);
        }
        x.fleet(1, 0, 6);
        for (int i = 0; i < 6; i++) {
            x.join(1, i, i < 2 ? NONE : 2);
        }
        Checks.due("the fourth does not go", x.move(0, 0, 1, 1, 5), Checks.STORE);
        Checks.due("STORE", x.finding(), 6);
        standing("three have come, none behind", x, 1, NONE, 0, 2, NONE, 2, 2);
        standing("where they came from", x, 0, all);
        Checks.due("the first does not go", x.move(0, 3, 1, 0, 3), Checks.STORE);
        standing("none has come", x, 1, NONE, 0, 2, NONE, 2, 2);
        Checks.due("the last does not go", x.move(0, 2, 1, 4, 2), Checks.STORE);
        standing("one has come", x, 1, NONE, 0, 2, NONE, NONE, 2);
        int findings = x.count(8);
        Checks.due("all go, though the SORT is wider", x.move(0, 4, 1, 0, 2), 2);
        Checks.due("no FINDING", x.count(8), findings);
        standing("both have come", x, 1, 2, 0, 2, NONE, NONE, 2);
        x.fleet(2, 2, 2);
        Checks.due("DEEPS to TOWS", x.move(1, 0, 2, 0, 2), Checks.STORE);
        standing("the TOW has come", x, 2, 2, NONE);
        Checks.due("TOWS to DEEPS", x.move(2, 0, 1, 3, 2), 2);
        standing("NOTHING comes, too", x, 1, 2, 0, 2, 2, NONE, 2);
    }

    private static void shares() {
        Checks.promise(37, "A cost (0 .. 1000000) by how many SHIPS stand in a FLEET, told by asked(): 1. BAD; NULL, ZERO.");
        Harbour.found(Harbour::make, "NULL", Checks.NULL, 1, x -> x.shared(3, 0));
        Harbour.found(Harbour::make, "ZERO: no places", Checks.ZERO, 4, x -> x.shared(2, 0));
        Harbour.found(() -> Harbour.with(1, x -> x.join(1, 0, NONE)), "ZERO: none stands", Checks.ZERO, 4,
            x -> x.shared(1, 1000000));
        Harbour.refused(Harbour::make, "BAD ahead of NULL", Checks.BAD, x -> x.shared(3, -1));
        Harbour.refused(Harbour::make, "BAD ahead of ZERO", Checks.BAD, x -> x.shared(2, 1000001));
        TideDesk x = ofAllKinds();
        x.fleet(0, 5, 8);
        for (int many = 1; many <= 8; many++) {
            x.join(0, 8 - many, 3);
            for (int cost : new int[] {0, many - 1, many, 1000000}) {
                Checks.due("shared", x.shared(0, cost), 1);
                Checks.due("by " + many, x.asked(), cost / many);
            }
        }
        x.shared(0, 1000001);
        x.shared(1, 5);
        Checks.due("refused: as it was", x.asked(), 125000);
    }
}
