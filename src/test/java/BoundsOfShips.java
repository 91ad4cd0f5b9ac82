import java.util.ArrayList;
import java.util.List;

/** 5 SHIPS: PAIRS one in the other, ASKS and their BODIES, THE TRACE, what a SHIP is taken as. */
final class BoundsOfShips {
    private static final int NONE = Checks.NONE;
    private static final int NEED = 0, KEEL = 1, PACE = 2, PATIENCE = 3, BY_DAY = 4;

    private BoundsOfShips() {
    }

    static void run() {
        pairsOneInTheOther();
        needs();
        keels();
        paces();
        patiences();
        byDay();
        partsThatAreNothing();
        asksThatAreRefused();
        asked();
        theFirstHundred();
        emptyAhead();
        takenAs();
    }

    private static TideDesk deskWith(int kind, int draught, int pace, int x) {
        TideDesk desk = new TideDesk();
        desk.ship(kind, draught, pace, x, 0, 0);
        return desk;
    }

    private static void told(TideDesk x, int ship, int what, int answer, int... bodies) {
        Checks.due("ask(" + ship + ", " + what + ")", x.ask(ship, what), 1);
        Checks.due("asked() of " + ship + ", " + what, x.asked(), answer);
        Checks.traced("ask(" + ship + ", " + what + ")", x, bodies);
    }

    private static void pairsOneInTheOther() {
        Checks.promise(28, "A SHIP: its number.");
        Checks.promise(28, "BAD; NO: it would be the 5th PAIR one in the other; FULL: 40.");
        for (int side = 0; side < 2; side++) {
            TideDesk x = new TideDesk();
            x.ship(1, 0, 0, 0, 0, 0);
            for (int i = 1; i <= 4; i++) {
                int other = i % 2 == 0 ? 0 : NONE;
                int part = i - 1;
                Checks.due("PAIR " + i, x.ship(4, 0, 0, 0, side == 0 ? part : other, side == 0 ? other : part), i);
            }
            Checks.due("the 5th, as the first PART", x.ship(4, 0, 0, 0, 4, NONE), Checks.NO);
            Checks.due("the 5th, as the second PART", x.ship(4, 0, 0, 0, NONE, 4), Checks.NO);
            Checks.due("the 5th, as both", x.ship(4, 0, 0, 0, 4, 4), Checks.NO);
            Checks.due("the 5th, beside a lesser one", x.ship(4, 0, 0, 0, 1, 4), Checks.NO);
            Checks.due("the 5th, beside a lesser one", x.ship(4, 0, 0, 0, 4, 3), Checks.NO);
            Checks.due("BAD ahead of NO", x.ship(4, 0, 0, 0, 4, 5), Checks.BAD);
            Checks.due("BAD ahead of NO", x.ship(4, 3001, 0, 0, 4, 4), Checks.BAD);
            Checks.due("not looked at", x.ship(0, 0, 0, 0, 4, 4), 5);
            Checks.due("another 4th", x.ship(4, 0, 0, 0, 3, 3), 6);
            Checks.due("side by side", x.ship(4, 0, 0, 0, 3, 2), 7);
            Checks.due("how many", x.count(5), 8);
            for (int i = 8; i < 40; i++) {
                Checks.due("ship", x.ship(0, 0, 0, 0, 0, 0), i);
            }
            Checks.due("NO ahead of FULL", x.ship(4, 0, 0, 0, 0, 4), Checks.NO);
            Checks.due("FULL", x.ship(4, 0, 0, 0, 0, 3), Checks.FULL);
            Checks.due("NO and FULL are no FINDINGS", x.count(8), 0);
        }
        Checks.Act deeper = x -> x.ship(4, 0, 0, 0, x.count(5) == Harbour.SHIPS ? 4 : x.count(5) - 1, NONE);
        Harbour.refused(() -> Harbour.with(3, deeper), "the 5th", Checks.NO, deeper);
    }

    private static void needs() {
        Checks.terms("ASKS, by BODIES, each of which leaves its number in THE TRACE as it begins");
        Checks.terms("NEED: 10 of all: DRAUGHT and its own KEEL. 11 of DEEPS: what 10 gives, and DRAUGHT / 10.");
        for (int draught : new int[] {0, 9, 10, 19, 2999, 3000}) {
            told(deskWith(0, draught, 0, 1000), 0, NEED, draught + 100 + draught / 10, 11, 10, 21);
            told(deskWith(1, draught, 0, 1000), 0, NEED, draught + 30, 10, 20);
            told(deskWith(2, draught, 0, 1000), 0, NEED, draught + 1100 + draught / 10, 11, 10, 22, 21);
            told(deskWith(2, draught, 0, -1000), 0, NEED, draught - 900 + draught / 10, 11, 10, 22, 21);
            told(deskWith(3, draught, 0, 1000), 0, NEED, draught + 60, 10, 23, 20);
        }
        Checks.terms("12 of PAIRS: the greater NEED of the PARTS, the first one's asked first");
        TideDesk x = new TideDesk();
        x.ship(1, 500, 0, 0, 0, 0);
        x.ship(3, 470, 0, 0, 0, 0);
        x.ship(3, 471, 0, 0, 0, 0);
        x.ship(3, 469, 0, 0, 0, 0);
        x.ship(2, 0, 0, -1000, 0, 0);
        x.ship(2, 0, 0, -999, 0, 0);
        int[][] pairs = {{0, 1, 530}, {0, 2, 531}, {2, 0, 531}, {0, 3, 530}, {3, 0, 530}, {4, 5, -899}, {5, 4, -899},
            {4, 4, -900}};
        for (int i = 0; i < pairs.length; i++) {
            x.ship(4, 3000, 0, 1000, pairs[i][0], pairs[i][1]);
            x.ask(6 + i, NEED);
            Checks.due("the greater of " + pairs[i][0] + ", " + pairs[i][1], x.asked(), pairs[i][2]);
        }
        told(x, 6, NEED, 530, 12, 10, 20, 10, 23, 20);
        told(x, 8, NEED, 531, 12, 10, 23, 20, 10, 20);
    }

    private static void keels() {
        Checks.terms("KEEL: 20 of all: 30. 21 of DEEPS: 100. 22 of TOWS: what 21 gives, and x. 23 of FERRIES: twice what 20"
            + " gives.");
        for (int x : new int[] {-1000, -100, 0, 1000}) {
            told(deskWith(0, 3000, 0, x), 0, KEEL, 100, 21);
            told(deskWith(1, 3000, 0, x), 0, KEEL, 30, 20);
            told(deskWith(2, 3000, 0, x), 0, KEEL, 100 + x, 22, 21);
            told(deskWith(3, 3000, 0, x), 0, KEEL, 60, 23, 20);
            TideDesk pair = new TideDesk();
            pair.ship(4, 3000, 0, x, NONE, NONE);
            told(pair, 0, KEEL, 30, 20);
        }
    }

    private static void paces() {
        Checks.terms("PACE: 30 of all: PACE. 31 of TOWS: what 30 gives by x (ZERO).");
        for (int kind : new int[] {0, 1, 3}) {
            told(deskWith(kind, 0, 0, 0), 0, PACE, 0, 30);
            told(deskWith(kind, 0, 3000, 0), 0, PACE, 3000, 30);
        }
        Checks.terms("Whole numbers are divided cut, if not rounded down.");
        int[][] cut = {{3000, 1, 3000}, {3000, -1, -3000}, {3000, 1000, 3}, {3000, -1000, -3}, {999, 1000, 0},
            {999, -1000, 0}, {2999, 1000, 2}, {2999, -1000, -2}, {0, 5, 0}, {500, -7, -71}};
        for (int[] c : cut) {
            told(deskWith(2, 0, c[0], c[1]), 0, PACE, c[2], 31, 30);
        }
        for (int pace : new int[] {0, 1, 3000}) {
            TideDesk x = deskWith(2, 0, pace, 0);
            Checks.due("by 0", x.ask(0, PACE), Checks.ZERO);
            Checks.due("ZERO", x.finding(), 4);
            Checks.traced("by 0", x, 31, 30);
        }
        Checks.terms("32 of PAIRS: the lesser PACE of the PARTS, likewise.");
        TideDesk x = new TideDesk();
        x.ship(1, 0, 100, 0, 0, 0);
        x.ship(1, 0, 99, 0, 0, 0);
        x.ship(2, 0, 100, -1, 0, 0);
        x.ship(2, 0, 100, 0, 0, 0);
        x.ship(4, 0, 0, 0, 0, 1);
        x.ship(4, 0, 0, 0, 1, 0);
        x.ship(4, 0, 0, 0, 0, 2);
        x.ship(4, 0, 0, 0, 0, 0);
        x.ship(4, 0, 0, 0, 3, NONE);
        x.ship(4, 0, 0, 0, 0, 3);
        told(x, 4, PACE, 99, 32, 30, 30);
        told(x, 5, PACE, 99, 32, 30, 30);
        told(x, 6, PACE, -100, 32, 30, 31, 30);
        told(x, 7, PACE, 100, 32, 30, 30);
        Checks.due("ZERO ahead of NULL", x.ask(8, PACE), Checks.ZERO);
        Checks.traced("ZERO ahead of NULL", x, 32, 31, 30);
        Checks.due("ZERO of the second", x.ask(9, PACE), Checks.ZERO);
        Checks.traced("ZERO of the second", x, 32, 30, 31, 30);
    }

    private static void patiences() {
        Checks.terms("PATIENCE (minutes): 40 lent to all that WAIT: 60. 41 of LIGHTS: 30. 42 of FERRIES: what 41 gives less"
            + " x.");
        for (int x : new int[] {-1000, 0, 30, 31, 1000}) {
            told(deskWith(0, 0, 0, x), 0, PATIENCE, 60, 40);
            told(deskWith(1, 0, 0, x), 0, PATIENCE, 30, 41);
            told(deskWith(2, 0, 0, x), 0, PATIENCE, 60, 40);
            told(deskWith(3, 0, 0, x), 0, PATIENCE, 30 - x, 42, 41);
        }
        Checks.terms("43 of PAIRS: both PARTS', likewise, together, by 2.");
        int[][] sums = {{1000, 999, -969}, {999, 1000, -969}, {1000, 1000, -970}, {30, 31, 0}, {31, 31, -1}, {30, 29, 0},
            {29, 29, 1}, {-1000, -1000, 1030}, {-1000, -999, 1029}};
        for (int[] sum : sums) {
            TideDesk x = new TideDesk();
            x.ship(3, 0, 0, sum[0], 0, 0);
            x.ship(3, 0, 0, sum[1], 0, 0);
            x.ship(4, 0, 0, 0, 0, 1);
            told(x, 2, PATIENCE, sum[2], 43, 42, 41, 42, 41);
        }
        TideDesk x = new TideDesk();
        x.ship(0, 0, 0, 0, 0, 0);
        x.ship(1, 0, 0, 0, 0, 0);
        x.ship(4, 0, 0, 0, 0, 1);
        told(x, 2, PATIENCE, 45, 43, 40, 41);
    }

    private static void byDay() {
        Checks.terms("BY DAY: 50 lent to all that TELL: no. 51 of TOWS: yes. 52 of PAIRS: whether a PART is (the second is"
            + " asked, if the first is not).");
        TideDesk x = new TideDesk();
        for (int kind = 0; kind < 4; kind++) {
            x.ship(kind, 0, 0, 0, 0, 0);
            told(x, kind, BY_DAY, kind == 2 ? 1 : 0, kind == 2 ? 51 : 50);
        }
        x.ship(4, 0, 0, 0, 0, 1);
        x.ship(4, 0, 0, 0, 0, 2);
        x.ship(4, 0, 0, 0, 2, 0);
        x.ship(4, 0, 0, 0, 2, NONE);
        x.ship(4, 0, 0, 0, 7, 5);
        x.ship(4, 0, 0, 0, 4, 5);
        told(x, 4, BY_DAY, 0, 52, 50, 50);
        told(x, 5, BY_DAY, 1, 52, 50, 51);
        told(x, 6, BY_DAY, 1, 52, 51);
        told(x, 7, BY_DAY, 1, 52, 51);
        told(x, 8, BY_DAY, 1, 52, 52, 51);
        told(x, 9, BY_DAY, 1, 52, 52, 50, 50, 52, 50, 51);
        Checks.terms("(Of an ask the BODY told latest for the KIND begins, and what that asks. Sums and products are"
            + " ints.)");
        told(x, 9, KEEL, 30, 20);
    }

    private static void partsThatAreNothing() {
        Checks.terms("(NULL, when a PART is asked that is NOTHING; so below).");
        TideDesk x = new TideDesk();
        x.ship(1, 0, 0, 0, 0, 0);
        x.ship(4, 0, 0, 0, NONE, 0);
        x.ship(4, 0, 0, 0, 0, NONE);
        x.ship(4, 0, 0, 0, NONE, NONE);
        x.ship(4, 0, 0, 0, 2, 0);
        int[] whats = {NEED, PACE, PATIENCE, BY_DAY};
        int[] pair = {12, 32, 43, 52};
        int[][] part = {{10, 20}, {30}, {41}, {50}};
        for (int i = 0; i < 4; i++) {
            int[] first = {pair[i]};
            int[] both = new int[1 + part[i].length];
            int[] within = new int[2 + part[i].length];
            both[0] = pair[i];
            within[0] = pair[i];
            within[1] = pair[i];
            System.arraycopy(part[i], 0, both, 1, part[i].length);
            System.arraycopy(part[i], 0, within, 2, part[i].length);
            nothing(x, 1, whats[i], first);
            nothing(x, 2, whats[i], both);
            nothing(x, 3, whats[i], first);
            nothing(x, 4, whats[i], within);
        }
        for (int ship = 1; ship <= 4; ship++) {
            told(x, ship, KEEL, 30, 20);
        }
    }

    private static void nothing(TideDesk x, int ship, int what, int... bodies) {
        int findings = x.count(8);
        Checks.due("a PART is NOTHING", x.ask(ship, what), Checks.NULL);
        Checks.due("NULL", x.finding(), 1);
        Checks.due("a FINDING more", x.count(8), findings + 1);
        Checks.traced("a PART is NOTHING", x, bodies);
    }

    private static void asksThatAreRefused() {
        Checks.promise(29, "An ask:");
        Checks.promise(29, "BAD; NULL, ZERO.");
        Harbour.stopped(Harbour::make, "NEED", Checks.NULL, 1, x -> x.ask(5, NEED), 12, 10, 20);
        Harbour.stopped(Harbour::make, "PACE", Checks.NULL, 1, x -> x.ask(5, PACE), 32, 30);
        Harbour.stopped(Harbour::make, "PATIENCE", Checks.NULL, 1, x -> x.ask(5, PATIENCE), 43, 41);
        Harbour.stopped(Harbour::make, "BY DAY", Checks.NULL, 1, x -> x.ask(5, BY_DAY), 52, 50);
        Harbour.stopped(Harbour::make, "PACE by 0", Checks.ZERO, 4, x -> x.ask(6, PACE), 31, 30);
        Harbour.refused(Harbour::make, "no such SHIP", Checks.BAD, x -> x.ask(7, NEED));
        Harbour.refused(Harbour::make, "no such ask", Checks.BAD, x -> x.ask(0, 5));
    }

    private static void asked() {
        Checks.promise(30, "What the latest ask() that was 1 told; 0 before.");
        TideDesk x = deskWith(2, 0, 500, 0);
        Checks.due("before", x.asked(), 0);
        x.ask(0, PACE);
        Checks.due("a FINDING tells nothing", x.asked(), 0);
        x.ask(0, PATIENCE);
        Checks.due("told", x.asked(), 60);
        x.ask(0, PACE);
        x.ask(0, 5);
        x.ask(1, NEED);
        Checks.due("refused ones leave it", x.asked(), 60);
        x.holds(0, 0, 0);
        x.windows(0, 0, 0, 1);
        x.passage(0, 0, 0);
        x.plan();
        x.pass(0);
        Checks.due("what others ask leaves it", x.asked(), 60);
        x.ask(0, BY_DAY);
        Checks.due("told", x.asked(), 1);
        Checks.due("told twice", x.asked(), 1);
    }

    /** The BODIES of an ask of a PAIR that has, four deep, sixteen times one TOW. */
    private static void bodies(List<Integer> all, int deep, int pair, int... leaf) {
        if (deep == 0) {
            for (int body : leaf) {
                all.add(body);
            }
            return;
        }
        all.add(pair);
        bodies(all, deep - 1, pair, leaf);
        bodies(all, deep - 1, pair, leaf);
    }

    private static TideDesk sixteenTows() {
        TideDesk x = deskWith(2, 0, 3000, 1);
        for (int i = 0; i < 4; i++) {
            x.ship(4, 0, 0, 0, i, i);
        }
        return x;
    }

    private static void theFirstHundred() {
        Checks.terms("(the first 100; empty ahead of each ask(), comes(), holds(), windows(), plan(), pass() that is not"
            + " BAD, FULL)");
        Checks.promise(31, "Number i of THE TRACE of the latest call that asked; NONE.");
        TideDesk x = sixteenTows();
        List<Integer> need = new ArrayList<>();
        bodies(need, 4, 12, 11, 10, 22, 21);
        x.ask(4, NEED);
        for (int i = 0; i < need.size(); i++) {
            Checks.due("trace(" + i + ")", x.trace(i), need.get(i));
        }
        Checks.due("79 of them", need.size(), 79);
        Checks.due("the end", x.trace(79), NONE);
        List<Integer> minute = new ArrayList<>(need);
        bodies(minute, 4, 32, 31, 30);
        x.holds(4, 0, 0);
        for (int i = 0; i < 100; i++) {
            Checks.due("trace(" + i + ")", x.trace(i), minute.get(i));
        }
        Checks.dueAll("no more than 100", NONE, x.trace(100), x.trace(101), x.trace(125), x.trace(Checks.MOST),
            x.trace(-1), x.trace(Checks.LEAST));
        x.ask(4, KEEL);
        Checks.traced("one", x, 20);
        Checks.dueAll("the others are gone", NONE, x.trace(2), x.trace(78), x.trace(99), x.trace(100));
    }

    private static void emptyAhead() {
        Checks.terms("empty ahead of each ask(), comes(), holds(), windows(), plan(), pass() that is not BAD, FULL");
        int[] long1 = {12, 10, 20, 11, 10, 21};
        TideDesk x = new TideDesk();
        x.ship(1, 0, 100, 0, 0, 0);
        x.ship(0, 0, 100, 0, 0, 0);
        x.ship(4, 0, 0, 0, 0, 1);
        x.shoal(0, 0, 0);
        x.leg(1, 0, 0, Checks.NO_FLOAT);
        x.passage(0, 0, 0);
        Checks.traced("nothing yet", x);
        x.ask(2, NEED);
        Checks.traced("ask", x, long1);
        x.comes(0, 1, 0, 0);
        Checks.traced("comes", x, 30);
        x.ask(2, NEED);
        x.holds(0, 0, 0);
        Checks.traced("holds", x, 10, 20, 30, 50);
        x.ask(2, NEED);
        x.windows(0, 0, 0, 1);
        Checks.traced("windows", x, 10, 20, 30, 50);
        x.windows(0, 0, 0, 2);
        Checks.traced("windows", x, 10, 20, 30, 50, 10, 20, 30, 50);
        x.plan();
        Checks.traced("plan", x, 41, 10, 20, 30, 50);
        x.ask(2, NEED);
        x.plan();
        Checks.traced("plan of none", x);
        x.ask(2, NEED);
        x.pass(0);
        Checks.traced("pass", x, 10, 20, 30, 41);
        x.ask(2, NEED);
        x.ask(3, NEED);
        x.ask(2, 5);
        x.comes(0, 0, 0, 0);
        x.comes(0, 1, 1, 0);
        x.holds(0, 0, 43200);
        x.windows(0, 0, 0, 0);
        x.pass(1);
        Checks.traced("BAD leaves it", x, long1);
        x.as(0, 1);
        x.as(0, 2);
        x.fleet(0, 5, 3);
        x.join(0, 0, 2);
        x.member(0, 0);
        x.move(0, 0, 0, 1, 1);
        x.shared(0, 10);
        x.passage(0, 0, 0);
        x.again(0);
        x.planned(0, 1);
        Checks.traced("others leave it", x, long1);
    }

    private static void takenAs() {
        Checks.promise(32, "Taken as one of a KIND, a SHIP (NONE: NOTHING) tells its x, by asked() (no BODY begins): 1. BAD;"
            + " CAST; NULL (NOTHING).");
        int[][] fits = {{1, 0, 0, 0, 0}, {0, 1, 0, 0, 0}, {1, 0, 1, 0, 0}, {0, 1, 0, 1, 0}, {0, 0, 0, 0, 1}};
        for (int kind = 0; kind < 5; kind++) {
            for (int as = 0; as < 5; as++) {
                int taken = as;
                int ship = kind;
                if (fits[kind][as] == 0) {
                    Harbour.found(Harbour::make, kind + " as " + as, Checks.CAST, 3, x -> x.as(ship, taken));
                } else {
                    TideDesk x = new TideDesk();
                    x.ship(kind, 0, 0, kind == 0 ? -1000 : 1000, NONE, NONE);
                    x.ask(0, KEEL);
                    int body = x.trace(0);
                    Checks.due(kind + " as " + as, x.as(0, taken), 1);
                    Checks.due("its x", x.asked(), kind == 0 ? -1000 : 1000);
                    Checks.due("no BODY begins", x.trace(0), body);
                    Checks.due("no FINDING", x.finding(), 0);
                }
            }
            int any = kind;
            Harbour.found(Harbour::make, "NOTHING", Checks.NULL, 1, x -> x.as(NONE, any));
        }
        Harbour.refused(Harbour::make, "NOTHING as no KIND", Checks.BAD, x -> x.as(NONE, 5));
        Harbour.refused(Harbour::make, "NOTHING as no KIND", Checks.BAD, x -> x.as(NONE, -1));
        Harbour.refused(Harbour::make, "not even NOTHING", Checks.BAD, x -> x.as(-2, 0));
    }
}
