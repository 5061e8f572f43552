/** The Terms' sentences up to ORDERS GIVEN, one test each. */
public final class BoundsTermsTownTest extends Bounds {
    private static final String JOINED =
            "With two ORDERS JOINED: of the ways that can be (none with a WAY missing, none "
            + "that ends above MINUTE 1439) by which each is picked ahead of its drop that with the least "
            + "LATE of both together; of several the one that ends first; of several the first of these "
            + "(a, b: the one told first, the other): pick a, drop a, pick b, drop b; pick b, drop b, pick a, "
            + "drop a; pick a, pick b, drop a, drop b; pick a, pick b, drop b, drop a; pick b, pick a, drop a, "
            + "drop b; pick b, pick a, drop b, drop a.";

    public static void main(String[] args) throws Exception {
        run(BoundsTermsTownTest.class);
    }

    // ---- findings

    @Sentence(of = 0, says = "FINDINGS are answers below -1000000: LOW is -1000001; LOW BEYOND, "
            + "LOW - 1 FULL, LOW - 2 KIND, LOW - 3 NONE, LOW - 4 STATE, LOW - 5 MISSING, LOW - 6 SIZE.")
    static void numbersOfFindings() {
        Run r = new Run();
        r.due(-1000001, "way", 16, 0);
        for (int k = 0; k < 6; k++) {
            r.due(k, "kitchen", 0, 1);
        }
        r.due(-1000002, "kitchen", 0, 1);
        r.call("rider", 1, 0);
        r.call("hold", 0, 0);
        r.due(-1000003, "as", 0, 2);
        r.due(-1000004, "way", 0, 1);
        r.due(-1000005, "offerAll");
        r.due(-1000006, "as", 1, 0);
        r.due(-1000007, "sheet", 0, 8, -1);
        for (int f = 0; f <= 6; f++) {
            r.due(1, "status", f);
        }
    }

    @Sentence(of = 0, says = "Each act tells its findings in the order in which they are asked "
            + "(that of its words); one that answers a finding changes nothing but status().")
    static void orderOfFindings() {
        Run r = town();
        // the order is BEYOND and not there to wait, GIVEN or called off and without a TRIP ..
        r.refuses(NONE, "orderOf", 0, 5).refuses(BEYOND, "orderOf", 0, 11);
        r.refuses(BEYOND, "goes", 5, 0, 9).refuses(NONE, "goes", 0, 0, 9);
        r.refuses(BEYOND, "trip", 4, 1, 3).refuses(STATE, "trip", 4, 1, 0).refuses(NONE, "trip", 4, 0, 0);
        r.refuses(BEYOND, "join", 4, 1, 0, 5).refuses(STATE, "join", 4, 1, 0, 0);
        r.refuses(BEYOND, "join", 4, 1, 1, 0).refuses(NONE, "join", 4, 0, 3, 0);
        r.refuses(BEYOND, "give", 5, 1).refuses(STATE, "give", 4, 1).refuses(NONE, "give", 4, 0);
        r.refuses(BEYOND, "giveTwo", 4, 1, 1).refuses(STATE, "giveTwo", 4, 1, 0);
        r.refuses(NONE, "giveTwo", 4, 0, 3);
        r.refuses(BEYOND, "refuse", 5, 1).refuses(STATE, "refuse", 3, 1);
        r.refuses(NONE, "lacks", 0, 0).refuses(BEYOND, "lacks", 0, 3);
        r.refuses(BEYOND, "doubles", 5, 1).refuses(NONE, "doubles", 1, 1);
        r.refuses(BEYOND, "whom", 3, 2).refuses(NONE, "whom", 0, 2);
        r.refuses(BEYOND, "as", 5, 7).refuses(MISSING, "as", 5, 6).refuses(KIND, "as", 0, 4);
        r.refuses(BEYOND, "sheet", 4, 8, -1).refuses(BEYOND, "sheet", 0, 9, -1);
        r.refuses(SIZE, "sheet", 0, 8, -1).refuses(BEYOND, "sheet", 0, 8, 61);
        r.refuses(BEYOND, "write", 4, 60, 0).refuses(MISSING, "write", 3, 60, 0);
        r.refuses(BEYOND, "write", 0, 60, 0);
        r.refuses(BEYOND, "copy", 3, -1, 4, 0, 0).refuses(MISSING, "copy", 3, -1, 1, 0, 0);
        r.refuses(KIND, "copy", 0, -1, 1, 0, 0).refuses(BEYOND, "copy", 0, -1, 2, 0, 0);
        r.refuses(BEYOND, "judge", 4, 3).refuses(MISSING, "judge", 3, 3).refuses(BEYOND, "judge", 0, 3);
        r.call("force", 0, -1);
        r.refuses(BEYOND, "offered", 7).refuses(STATE, "offered", 4);
        Run late = new Run().go(1439);
        late.refuses(BEYOND, "minutes", 601).refuses(STATE, "minutes", 600);
    }

    @Sentence(of = 0, says = "Quotients are cut.")
    static void quotients() {
        Run r = new Run();
        r.call("kitchen", 0, 1);
        r.call("rider", 0, 0);
        r.call("order", 0, 0, 10, 9);
        r.due(-3, "says", r.text("-7/2"), 0, 0);
        r.due(-3, "says", r.text("7/-2"), 0, 0);
        r.due(3, "says", r.text("7/2"), 0, 0);
        r.due(0, "says", r.text("-1/2"), 0, 0);
        r.call("force", 1, r.text("99"));
        r.call("give", 0, 0);
        // 9 by 5 of the cook, 99 by 100 in the rain
        r.due(1, "lacks", 0, 0);
        r.call("rain", 0, 1439, 1);
        r.due(99, "orderOf", 0, 9);
    }

    @Sentence(of = 0, says = "Ints wrap.")
    static void wraps() {
        Run r = new Run();
        r.call("kitchen", 0, 1);
        r.call("rider", 0, 0);
        r.call("order", 0, 0, 10, 0);
        // 2147483648 = 9999 * 9999 * 21 + 4790 * 9999 + 8417
        String low = "0-9999*9999*21-4790*9999-8417";
        r.due(MIN, "says", r.text(low), 0, 0);
        r.due(MAX, "says", r.text(low + "-1"), 0, 0);
        r.due(MIN, "says", r.text("-(" + low + ")"), 0, 0);
        r.due(MIN, "says", r.text("(" + low + ")/-1"), 0, 0);
        r.due(MIN, "says", r.text("9999*9999*21+4790*9999+8417"), 0, 0);
        r.due((int) 999700029999L, "says", r.text("9999*9999*9999"), 0, 0);
        // what has wrapped is compared as it is
        r.due(1, "says", r.text("9999*9999*21+4790*9999+8417<0"), 0, 0);
    }

    // ---- the town

    @Sentence(of = 0, says = "CROSSINGS are 0 to 15, each with a HEIGHT (0 to 9; 0 at first) "
            + "and a ZONE (0 to 3; 0 at first).")
    static void crossings() {
        Run r = new Run();
        for (int c = 0; c <= 15; c++) {
            r.due(0, "crossing", c, 0, 9).due(9, "crossing", c, 0, 0);
            r.due(0, "crossing", c, 1, 3).due(3, "crossing", c, 1, 0);
        }
        r.refuses(BEYOND, "crossing", -1, 0, 0).refuses(BEYOND, "crossing", 16, 0, 0);
        r.refuses(BEYOND, "crossing", 0, 0, -1).refuses(BEYOND, "crossing", 0, 0, 10);
        r.refuses(BEYOND, "crossing", 0, 1, -1).refuses(BEYOND, "crossing", 0, 1, 4);
    }

    @Sentence(of = 0, says = "ROADS join two of them for 1 to 60 MINUTES (the least told counts; none at first).")
    static void roads() {
        Run r = new Run();
        for (int a = 0; a < 16; a++) {
            for (int b = 0; b < 16; b++) {
                r.due(a == b ? 0 : NONE, "way", a, b);
            }
        }
        r.refuses(BEYOND, "road", 0, 1, 61).due(60, "road", 0, 1, 60);
        r.due(60, "way", 0, 1).due(60, "way", 1, 0);
        r.due(59, "road", 1, 0, 59).due(59, "road", 0, 1, 60).due(59, "way", 0, 1);
        r.refuses(BEYOND, "road", 0, 1, 0).due(1, "road", 0, 1, 1);
        r.due(1, "road", 1, 0, 2).due(1, "way", 1, 0);
        r.due(NONE, "way", 0, 2);
    }

    @Sentence(of = 0, says = "WAY from one to another: the least sum of MINUTES, and one for each "
            + "HEIGHT by which a ROAD goes up; 0 to itself; NONE without ROADS.")
    static void ways() {
        Run r = new Run();
        r.call("road", 0, 1, 10);
        r.call("road", 1, 2, 10);
        r.call("road", 0, 2, 21);
        r.due(20, "way", 0, 2);
        r.call("crossing", 1, 0, 1);
        r.due(11, "way", 0, 1).due(10, "way", 1, 0).due(21, "way", 0, 2);
        r.call("crossing", 1, 0, 9);
        r.due(19, "way", 0, 1).due(21, "way", 0, 2).due(21, "way", 2, 0);
        // alike in HEIGHT: nothing more
        r.call("crossing", 0, 0, 9);
        r.due(10, "way", 0, 1).due(19, "way", 2, 1);
        r.call("crossing", 0, 0, 5);
        r.due(14, "way", 0, 1).due(26, "way", 2, 0);
        r.due(0, "way", 0, 0).due(0, "way", 1, 1).due(0, "way", 15, 15);
        r.due(NONE, "way", 2, 3).due(NONE, "way", 3, 2).due(NONE, "way", 14, 15);
        // all CROSSINGS in a row, up and down by turns
        Run chain = new Run();
        for (int c = 0; c < 15; c++) {
            chain.call("road", c, c + 1, 60);
            chain.call("crossing", c + 1, 0, 9 * ((c + 1) % 2));
        }
        chain.due(15 * 60 + 8 * 9, "way", 0, 15).due(15 * 60 + 7 * 9, "way", 15, 0);
        chain.due(0, "way", 7, 7);
    }

    @Sentence(of = 0, says = "MINUTES are 0 to 1439; NOW is one (0 at first).")
    static void minutes() {
        Run r = new Run();
        r.due(0, "count", 0);
        r.call("rider", 0, 0);
        r.within(0, 0, 1439, "rain", 1439, 1439, 1);
        r.within(1, 0, 1439, "rain", 0, 0, 1);
        r.within(1, 0, 1438, "app", 0, 0, 1439);
        r.within(2, 1, 1439, "app", 0, 0, 1439);
        r.within(2, 0, 1439, "seen", 0, 0, 0);
        r.within(0, 0, 1439, "starves", 0);
        r.go(1438).due(1438, "count", 0);
        r.due(1439, "minutes", 1).refuses(STATE, "minutes", 1).due(1439, "count", 0);
    }

    // ---- kitchens, orders, riders

    @Sentence(of = 0, says = "KITCHENS 0, 1, .. (at most 6): at a CROSSING, COOK (1 to 60 MINUTES).")
    static void kitchens() {
        Run r = new Run();
        r.within(1, 1, 60, "kitchen", 0, 1);
        r.due(0, "kitchen", 0, 1).due(1, "kitchen", 15, 60);
        r.call("order", 0, 0, 10, 0);
        r.call("order", 1, 0, 10, 0);
        r.due(1, "orderOf", 0, 3).due(60, "orderOf", 1, 3);
        r.due(2, "kitchen", 0, 1).due(3, "kitchen", 0, 1).due(4, "kitchen", 0, 1);
        r.due(5, "kitchen", 0, 1).refuses(FULL, "kitchen", 0, 1).due(6, "count", 1);
    }

    @Sentence(of = 0, says = "ORDERS 0, 1, .. (at most 24): of a KITCHEN, to a CROSSING, placed at NOW, "
            + "PROMISED in 10 to 120 MINUTES, with a DELAY of its cook (0 to 60).")
    static void orders() {
        Run r = new Run();
        r.call("kitchen", 3, 1);
        r.within(2, 10, 120, "order", 0, 0, 10, 0);
        r.within(3, 0, 60, "order", 0, 0, 10, 0);
        r.due(0, "order", 0, 0, 10, 0).due(1, "order", 0, 15, 120, 60);
        r.due(0, "orderOf", 0, 2).due(0, "orderOf", 0, 1).due(15, "orderOf", 1, 1);
        r.go(1439);
        for (int o = 2; o < 24; o++) {
            r.due(o, "order", 0, 0, 10, 0);
        }
        r.due(1439, "orderOf", 23, 2).due(0, "orderOf", 1, 2);
        r.refuses(FULL, "order", 0, 0, 10, 0).due(24, "count", 2);
    }

    @Sentence(of = 0, says = "READY is an ORDER COOK and DELAY behind.")
    static void ready() {
        Run r = new Run();
        r.call("kitchen", 0, 1);
        r.call("kitchen", 0, 60);
        r.call("order", 0, 0, 10, 0);
        r.call("order", 1, 0, 10, 60);
        r.due(1, "orderOf", 0, 3).due(120, "orderOf", 1, 3);
        r.go(1439).call("order", 1, 0, 10, 60);
        // no MINUTE any more, but told all the same
        r.due(1559, "orderOf", 2, 3);
    }

    @Sentence(of = 0, says = "RIDERS 0, 1, .. (at most 12): of kinds 0 RIDER; 1 BIKE, 2 CAR, 3 WALKER under "
            + "RIDER; 4 MOTOR under BIKE; 5 GHOST under BIKE; 6 NEWCOMER under WALKER; at a CROSSING, "
            + "free from a MINUTE (NOW at first).")
    static void riders() {
        Run r = new Run();
        String[] above = {"0", "10", "20", "30", "410", "510", "630"};
        for (int kind = 0; kind < 7; kind++) {
            r.due(kind, "rider", kind, kind).due(kind, "riderOf", kind, 0).due(0, "riderOf", kind, 2);
            r.call("hold", kind, kind);
            for (int asked = 0; asked < 7; asked++) {
                boolean is = above[kind].indexOf('0' + asked) >= 0;
                r.due(is ? kind : KIND, "as", kind, asked);
            }
        }
        r.refuses(BEYOND, "rider", 7, 0).refuses(BEYOND, "rider", -1, 0);
        r.go(1439);
        for (int i = 7; i < 12; i++) {
            r.due(i, "rider", 0, 15);
        }
        r.due(1439, "riderOf", 11, 2).due(15, "riderOf", 11, 1).due(0, "riderOf", 6, 2);
        r.refuses(FULL, "rider", 0, 0).due(12, "count", 4);
    }

    /** How one of a kind GOES for WAYS of 0, 1, 2, 3, 4, 5 and 60. */
    private static void goes(int kind, int... due) {
        Run r = new Run();
        int[] ways = {0, 1, 2, 3, 4, 5, 60};
        r.call("rider", kind, 15);
        for (int i = 0; i < ways.length; i++) {
            if (i > 0) {
                r.call("road", 2 * i, 2 * i + 1, ways[i]);
            }
            r.due(due[i], "goes", 0, 2 * i, i == 0 ? 0 : 2 * i + 1);
        }
        r.due(due[0], "goes", 0, 3, 3);
        r.refuses(NONE, "goes", 0, 0, 2);
    }

    @Sentence(of = 0, says = "GOES (how many MINUTES for a WAY w): RIDER: w.")
    static void goesRider() {
        goes(0, 0, 1, 2, 3, 4, 5, 60);
    }

    @Sentence(of = 0, says = "BIKE: three quarters of RIDER's, up.")
    static void goesBike() {
        goes(1, 0, 1, 2, 3, 3, 4, 45);
    }

    @Sentence(of = 0, says = "CAR: as RIDER, by 2, up, and 3 (for w 0, too).")
    static void goesCar() {
        goes(2, 3, 4, 4, 5, 5, 6, 33);
    }

    @Sentence(of = 0, says = "WALKER: as RIDER, twice.")
    static void goesWalker() {
        goes(3, 0, 2, 4, 6, 8, 10, 120);
    }

    @Sentence(of = 0, says = "MOTOR: as BIKE, less 1 (1 at least if w is above 0; 0 for w 0).")
    static void goesMotor() {
        goes(4, 0, 1, 1, 2, 2, 3, 44);
    }

    @Sentence(of = 0, says = "GHOST: as RIDER.")
    static void goesGhost() {
        goes(5, 0, 1, 2, 3, 4, 5, 60);
    }

    @Sentence(of = 0, says = "NEWCOMER: as WALKER, and 2 (0 for w 0).")
    static void goesNewcomer() {
        goes(6, 0, 4, 6, 8, 10, 12, 122);
    }

    // ---- trips

    /** KITCHEN 0 at 1 cooks for 10, ten MINUTES from 0 and twenty from 2; RIDER 0 is at 0. */
    private static Run tenFromTheKitchen() {
        Run r = new Run();
        r.call("road", 0, 1, 10);
        r.call("road", 1, 2, 20);
        r.call("kitchen", 1, 10);
        r.call("rider", 0, 0);
        return r;
    }

    @Sentence(of = 0, says = "A TRIP of a RIDER with an ORDER: from where it is, from NOW on, or from when "
            + "it is free if that is later: to the KITCHEN (PICK: when it is there, or READY, if that is "
            + "later), to its CROSSING (DROP).")
    static void trips() {
        Run r = tenFromTheKitchen();
        r.call("order", 0, 2, 60, 0);
        r.call("order", 0, 2, 60, 1);
        // there at 10: READY at 10, at 11
        r.due(10, "trip", 0, 0, 0).due(30, "trip", 0, 0, 1);
        r.due(11, "trip", 0, 1, 0).due(31, "trip", 0, 1, 1);
        r.go(1);
        // there at 11
        r.due(11, "trip", 0, 0, 0).due(11, "trip", 0, 1, 0);
        r.go(1);
        r.due(12, "trip", 0, 0, 0).due(12, "trip", 0, 1, 0);
        r.due(32, "give", 0, 0);
        // free from 32, at 2: there at 52
        r.due(52, "trip", 0, 1, 0).due(72, "trip", 0, 1, 1);
        r.go(30).due(52, "trip", 0, 1, 0);
        r.go(1).due(53, "trip", 0, 1, 0).due(73, "give", 0, 1);
        // each kind as it GOES: WAYS of 10 and 20, from 43 on
        int[][] legs = {{10, 20}, {8, 15}, {8, 13}, {20, 40}, {7, 14}, {10, 20}, {22, 42}};
        Run kinds = r.twin().go(10);
        kinds.call("order", 0, 2, 60, 0);
        for (int kind = 0; kind < 7; kind++) {
            kinds.call("rider", kind, 0);
            int pick = 43 + Math.max(10, legs[kind][0]);
            kinds.due(pick, "trip", kind + 1, 2, 0).due(pick + legs[kind][1], "trip", kind + 1, 2, 1);
        }
        // for nothing: there, READY, and at its CROSSING
        r.call("order", 0, 1, 10, 0);
        r.call("rider", 0, 1);
        r.go(10).due(43, "trip", 1, 2, 0).due(43, "trip", 1, 2, 1);
    }

    /** KITCHEN 0 at 0 with ORDERS to 1 (10 MINUTES off) and to 2 (12 off, PROMISED in so many). */
    private static Run fork(int now, int promised) {
        Run r = new Run().go(now);
        r.call("road", 0, 1, 10);
        r.call("road", 0, 2, 12);
        r.call("kitchen", 0, 1);
        r.call("rider", 0, 0);
        r.call("order", 0, 1, 120, 0);
        r.call("order", 0, 2, promised, 0);
        return r;
    }

    private static void joined(Run r, int way, int late, int ends, int drop, int otherDrop) {
        r.due(way, "join", 0, 0, 1, 0).due(late, "join", 0, 0, 1, 1).due(ends, "join", 0, 0, 1, 2);
        r.due(drop, "join", 0, 0, 1, 3).due(otherDrop, "join", 0, 0, 1, 4);
        r.due(ends, "giveTwo", 0, 0, 1).due(drop, "orderOf", 0, 7).due(otherDrop, "orderOf", 1, 7);
    }

    @Sentence(of = 0, says = JOINED)
    static void joinedTrips() {
        // 1 first ends at 33, 2 first at 35: the first end counts while none is LATE ..
        joined(fork(0, 120), 0, 0, 33, 11, 33);
        fork(0, 120).due(1, "join", 0, 1, 0, 0).due(33, "join", 0, 1, 0, 2);
        joined(fork(0, 33), 0, 0, 33, 11, 33);
        // .. and the least LATE ahead of it, by one MINUTE, too
        joined(fork(0, 32), 1, 0, 35, 35, 13);
        joined(fork(0, 10), 1, 3, 35, 35, 13);
        fork(0, 10).due(0, "join", 0, 1, 0, 0);
        // by the end of the day the better way ends at 1439, then above it; then both do
        joined(fork(1404, 10), 1, 3, 1439, 1439, 1417);
        joined(fork(1405, 10), 0, 23, 1438, 1416, 1438);
        joined(fork(1406, 10), 0, 23, 1439, 1417, 1439);
        fork(1407, 10).refuses(NONE, "join", 0, 0, 1, 0).refuses(NONE, "giveTwo", 0, 0, 1);
        // alike in all: the first one told
        Run alike = new Run();
        alike.call("kitchen", 0, 1);
        alike.call("rider", 0, 0);
        alike.call("order", 0, 0, 10, 0);
        alike.call("order", 0, 0, 10, 0);
        alike.due(0, "join", 0, 0, 1, 0).due(0, "join", 0, 1, 0, 0).due(1, "join", 0, 0, 1, 2);
        // each kind as it GOES, which way and when it ends
        int[][] due = {{0, 33}, {0, 26}, {0, 28}, {0, 65}, {0, 23}, {0, 33}, {2, 69}};
        Run kinds = fork(0, 120);
        for (int kind = 0; kind < 7; kind++) {
            kinds.call("rider", kind, 0);
            kinds.due(due[kind][0], "join", kind + 1, 0, 1, 0).due(due[kind][1], "join", kind + 1, 0, 1, 2);
        }
        // from where it is then, from when it is free: at 1, from 11
        Run moved = fork(0, 120);
        moved.call("order", 0, 1, 120, 0);
        moved.due(11, "give", 0, 2).due(0, "join", 0, 0, 1, 0).due(53, "join", 0, 0, 1, 2);
        // a WAY is missing to one KITCHEN, to one CROSSING
        Run far = fork(0, 120);
        far.call("kitchen", 9, 1);
        far.call("order", 1, 0, 120, 0);
        far.call("order", 0, 9, 120, 0);
        far.refuses(NONE, "join", 0, 0, 2, 0).refuses(NONE, "join", 0, 2, 0, 0);
        far.refuses(NONE, "join", 0, 0, 3, 0).refuses(NONE, "giveTwo", 0, 3, 0);
    }

    @Sentence(of = 0, says = JOINED)
    static void theSixWays() {
        // on a line of tens the RIDER is at 0, KITCHENS at 1, 2 and 3
        Run r = new Run();
        for (int c = 0; c < 5; c++) {
            r.call("road", c, c + 1, 10);
        }
        r.call("rider", 0, 0);
        r.call("kitchen", 1, 1);
        r.call("kitchen", 2, 1);
        r.call("kitchen", 3, 1);
        // 0 from 1 to 2, 1 from 3 to 4, 2 from 1 to 3, 3 from 2 to 4, 4 from 1 to 5, 5 from 2 to 3
        r.call("order", 0, 2, 120, 0);
        r.call("order", 2, 4, 120, 0);
        r.call("order", 0, 3, 120, 0);
        r.call("order", 1, 4, 120, 0);
        r.call("order", 0, 5, 120, 0);
        r.call("order", 1, 3, 120, 0);
        r.due(0, "join", 0, 0, 1, 0).due(20, "join", 0, 0, 1, 3).due(40, "join", 0, 0, 1, 4);
        r.due(1, "join", 0, 1, 0, 0).due(40, "join", 0, 1, 0, 3).due(20, "join", 0, 1, 0, 4);
        r.due(2, "join", 0, 2, 3, 0).due(30, "join", 0, 2, 3, 3).due(40, "join", 0, 2, 3, 4);
        r.due(5, "join", 0, 3, 2, 0).due(40, "join", 0, 3, 2, 3).due(30, "join", 0, 3, 2, 4);
        r.due(3, "join", 0, 4, 5, 0).due(50, "join", 0, 4, 5, 3).due(30, "join", 0, 4, 5, 4);
        r.due(4, "join", 0, 5, 4, 0).due(30, "join", 0, 5, 4, 3).due(50, "join", 0, 5, 4, 4);
    }

    @Sentence(of = 0, says = "LATE is DROP less the MINUTE at which it was placed and PROMISED, 0 at least.")
    static void late() {
        Run r = tenFromTheKitchen().go(5);
        // there at 15 as it is READY, dropped at 35: 30 MINUTES behind
        r.call("order", 0, 2, 31, 0);
        r.call("order", 0, 2, 30, 0);
        r.call("order", 0, 2, 29, 0);
        r.call("order", 0, 2, 120, 0);
        r.due(0, "trip", 0, 0, 2).due(0, "trip", 0, 1, 2).due(1, "trip", 0, 2, 2).due(0, "trip", 0, 3, 2);
        r.call("give", 0, 2);
        r.due(1, "orderOf", 2, 8);
        r.call("rider", 0, 0);
        r.call("give", 1, 3);
        r.due(0, "orderOf", 3, 8);
    }

    @Sentence(of = 0, says = "A TRIP isn't, if a WAY is missing, or it ends above MINUTE 1439.")
    static void noTrip() {
        Run r = tenFromTheKitchen();
        r.call("rider", 0, 9);
        r.call("order", 0, 0, 10, 0);
        r.call("order", 0, 9, 10, 0);
        r.refuses(NONE, "trip", 1, 0, 0).refuses(NONE, "give", 1, 0);
        r.refuses(NONE, "trip", 0, 1, 0).refuses(NONE, "give", 0, 1);
        r.refuses(NONE, "trip", 1, 1, 0);
        r.go(1409).call("order", 0, 2, 10, 0);
        r.call("order", 0, 2, 10, 1);
        // there at 1419 as one is READY, at 1420 the other: dropped at 1439, at 1440
        r.due(1439, "trip", 0, 2, 1).refuses(NONE, "trip", 0, 3, 1).refuses(NONE, "give", 0, 3);
        r.twin().due(1439, "give", 0, 2);
        r.go(1).refuses(NONE, "trip", 0, 2, 1).refuses(NONE, "give", 0, 2);
        // READY above the last MINUTE
        Run last = new Run().go(1439);
        last.call("kitchen", 0, 1);
        last.call("rider", 0, 0);
        last.call("order", 0, 0, 120, 0);
        last.refuses(NONE, "trip", 0, 0, 0).refuses(NONE, "give", 0, 0);
    }

    @Sentence(of = 0, says = "GIVEN: the RIDER is where the TRIP ends, free from then on; ENGAGED of a TRIP "
            + "are its MINUTES from its begin to its end.")
    static void given() {
        Run r = tenFromTheKitchen().go(3);
        r.call("order", 0, 2, 60, 7);
        r.call("order", 0, 1, 60, 0);
        r.call("order", 0, 0, 60, 0);
        // READY at 20, begun at 3, dropped at 40
        r.due(40, "give", 0, 0).due(2, "riderOf", 0, 1).due(40, "riderOf", 0, 2).due(37, "riderOf", 0, 4);
        // from 40 to 60: to the KITCHEN and no farther
        r.due(60, "give", 0, 1).due(1, "riderOf", 0, 1).due(60, "riderOf", 0, 2).due(57, "riderOf", 0, 4);
        r.go(62).due(75, "give", 0, 2).due(67, "riderOf", 0, 4);
        // a TRIP of no MINUTES
        Run still = new Run();
        still.call("kitchen", 0, 1);
        still.call("rider", 0, 0);
        still.call("order", 0, 0, 10, 0);
        still.go(1).due(1, "give", 0, 0).due(0, "riderOf", 0, 4).due(1, "riderOf", 0, 2);
        // a JOINED one ends at the last drop and counts once
        Run two = fork(0, 120);
        two.due(33, "giveTwo", 0, 0, 1).due(2, "riderOf", 0, 1).due(33, "riderOf", 0, 2);
        two.due(33, "riderOf", 0, 4).due(2, "riderOf", 0, 3);
        Run other = fork(5, 10);
        other.due(40, "giveTwo", 0, 0, 1).due(1, "riderOf", 0, 1).due(35, "riderOf", 0, 4);
        // as many TRIPS as there are ORDERS, of one MINUTE and of twenty
        Run all = new Run();
        all.call("road", 0, 1, 10);
        all.call("kitchen", 0, 1);
        all.call("rider", 0, 0);
        for (int o = 0; o < 24; o++) {
            all.call("order", 0, o % 2, 10, 0);
            all.call("give", 0, o);
        }
        // one to 0 ends there; one to 1 takes 10, the next comes back for 10
        all.due(1 + 12 * 10 + 11 * 10, "riderOf", 0, 4).due(231, "riderOf", 0, 2).due(24, "riderOf", 0, 3);
    }

    @Sentence(of = 0, says = "ORDERS are 0 waiting, 1 GIVEN, 2 called off.")
    static void states() {
        Run r = tenFromTheKitchen();
        r.call("order", 0, 0, 60, 0);
        r.call("order", 0, 0, 60, 0);
        r.due(0, "orderOf", 0, 4).due(0, "orderOf", 1, 4);
        r.call("give", 0, 0);
        r.call("callOff", 1);
        r.due(1, "orderOf", 0, 4).due(2, "orderOf", 1, 4);
    }
}
