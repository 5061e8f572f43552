/** The sentences of promises 33 to 48, one test each. */
public final class Bounds33To48Test extends Bounds {
    private static final String OF_A_ZONE =
            "Of a ZONE: what 0 ORDERS to it that wait, 1 that were GIVEN, 2 LATE of these together, "
            + "3 PAY of these together.";

    private static final String WRITTEN = "Number i of a sheet becomes v (its lowest bits, with their sign): 1.";

    private static final String ALL_BUT = "All but THE TAPE and SHEETS is kept: 1.";

    public static void main(String[] args) throws Exception {
        run(Bounds33To48Test.class);
    }

    // ---- zones, nights

    @Sentence(of = 33, says = OF_A_ZONE)
    static void p33What() {
        Run r = town();
        // to 3, in ZONE 1: 1 and 5 are GIVEN; to others, in ZONE 0: 0, 3 and 4 wait, 6 is GIVEN
        int late = r.call("orderOf", 1, 8) + r.call("orderOf", 5, 8);
        int pay = r.call("orderOf", 1, 9) + r.call("orderOf", 5, 9);
        r.due(0, "zone", 1, 0).due(2, "zone", 1, 1).due(late, "zone", 1, 2).due(pay, "zone", 1, 3);
        r.due(3, "zone", 0, 0).due(1, "zone", 0, 1).due(r.call("orderOf", 6, 9), "zone", 0, 3);
        for (int what = 0; what <= 3; what++) {
            r.due(0, "zone", 2, what).due(0, "zone", 3, what);
        }
        // the ZONE is the CROSSING's of now; one called off is told in none
        r.call("crossing", 3, 1, 3);
        r.due(2, "zone", 3, 1).due(pay, "zone", 3, 3).due(0, "zone", 1, 1);
        r.call("callOff", 0);
        r.due(2, "zone", 0, 0).due(1, "zone", 0, 1);
    }

    @Sentence(of = 33, says = OF_A_ZONE)
    static void p33All() {
        Run r = new Run();
        r.call("kitchen", 0, 1);
        r.call("rider", 0, 0);
        r.call("force", 1, r.text("9999"));
        for (int o = 0; o < 24; o++) {
            r.call("order", 0, 0, 10, 0);
        }
        r.due(24, "zone", 0, 0).go(15);
        for (int o = 0; o < 24; o++) {
            r.call("give", 0, o);
        }
        r.due(0, "zone", 0, 0).due(24, "zone", 0, 1).due(24 * 5, "zone", 0, 2).due(24 * 9999, "zone", 0, 3);
    }

    @Sentence(of = 33, says = "BEYOND.")
    static void p33Beyond() {
        town().within(0, 0, 3, "zone", 0, 0).within(1, 0, 3, "zone", 0, 0);
    }

    @Sentence(of = 34, says = "The ZONE that starves: the one with the most waiting ORDERS that are placed for "
            + "more than n MINUTES (0 to 1439), of several the least.")
    static void p34Starves() {
        Run r = new Run();
        r.call("kitchen", 0, 1);
        r.call("crossing", 1, 1, 1);
        r.call("crossing", 3, 1, 3);
        r.call("order", 0, 3, 10, 0);
        r.go(5).due(3, "starves", 0).due(3, "starves", 4).refuses(NONE, "starves", 5);
        r.call("order", 0, 1, 10, 0);
        r.go(1).due(1, "starves", 0).due(3, "starves", 1).due(3, "starves", 5);
        // those that are placed for just so long do not count
        r.call("order", 0, 1, 10, 0);
        r.due(1, "starves", 0).go(1).due(1, "starves", 0).due(1, "starves", 1).due(3, "starves", 2);
        r.call("callOff", 1);
        r.due(1, "starves", 0).due(3, "starves", 1);
        r.call("rider", 0, 0);
        r.call("road", 0, 1, 1);
        r.call("give", 0, 2);
        r.due(3, "starves", 0);
        r.go(1432).due(3, "starves", 1438).refuses(NONE, "starves", 1439);
    }

    @Sentence(of = 34, says = "BEYOND.")
    static void p34Beyond() {
        town().within(0, 0, 1439, "starves", 0);
        new Run().within(0, 0, 1439, "starves", 0);
    }

    @Sentence(of = 34, says = "NONE: there are none.")
    static void p34None() {
        new Run().refuses(NONE, "starves", 0).refuses(NONE, "starves", 1439);
        Run r = town();
        r.due(0, "starves", 6).refuses(NONE, "starves", 7);
        r.call("callOff", 0);
        r.call("callOff", 3);
        r.due(0, "starves", 0);
        r.call("callOff", 4);
        r.refuses(NONE, "starves", 0);
    }

    @Sentence(of = 35, says = "A NIGHT by a TEXT: what 0 how many ORDERS are GIVEN, 1 LATE of all, 2 the most that one "
            + "RIDER is GIVEN, 3 the fewest (of all RIDERS), 4 when the last ends (0 without any).")
    static void p35What() {
        Run r = new Run();
        int first = r.text("-n");
        int fair = r.text("-h");
        // no ORDERS and no RIDERS, no RIDERS, no ORDERS
        for (int what = 0; what <= 4; what++) {
            r.due(0, "night", first, what);
        }
        Run riders = r.twin();
        riders.call("rider", 0, 0);
        r.call("kitchen", 0, 1);
        r.call("order", 0, 0, 10, 0);
        for (int what = 0; what <= 4; what++) {
            r.due(0, "night", first, what).due(0, "night", fair, what);
            riders.due(0, "night", first, what);
        }
        r.call("rider", 0, 0);
        r.call("rider", 0, 0);
        r.call("order", 0, 0, 10, 14);
        r.call("order", 0, 0, 10, 29);
        // dropped at 1, 15 and 30: LATE 0, 5 and 20
        int[] byFirst = {3, 25, 3, 0, 30};
        int[] byTurns = {3, 25, 2, 1, 30};
        for (int what = 0; what <= 4; what++) {
            r.due(byFirst[what], "night", first, what).due(byTurns[what], "night", fair, what);
        }
        // one who comes later is one of all RIDERS; the last that ends is not the last ORDER
        r.go(1).call("rider", 0, 0);
        r.due(0, "night", fair, 3);
        r.go(1).call("order", 0, 0, 10, 0);
        r.due(1, "night", fair, 3).due(2, "whom", fair, 3).due(30, "night", fair, 4);
        // all of 24 to the one RIDER, to the last of twelve
        Run all = new Run();
        all.call("kitchen", 0, 1);
        all.call("rider", 0, 0);
        for (int o = 0; o < 24; o++) {
            all.call("order", 0, 0, 10, 0);
        }
        int last = all.text("n");
        all.due(24, "night", last, 0).due(24, "night", last, 2).due(24, "night", last, 3);
        for (int rider = 1; rider < 12; rider++) {
            all.call("rider", 0, 0);
        }
        all.due(24, "night", last, 2).due(0, "night", last, 3).due(11, "whom", last, 23);
    }

    @Sentence(of = 35, says = "BEYOND.")
    static void p35Beyond() {
        town().within(0, 0, 2, "night", 0, 0).within(1, 0, 4, "night", 0, 0);
        new Run().refuses(BEYOND, "night", 0, 0);
    }

    @Sentence(of = 36, says = "To whom an ORDER is GIVEN in a NIGHT.")
    static void p36Whom() {
        Run r = town();
        // by n the one with a TRIP that came last: 3 with 0, 1, 3, 5 and 6
        r.due(3, "whom", 2, 0).due(3, "whom", 2, 1).due(3, "whom", 2, 3).due(3, "whom", 2, 5);
        r.due(1, "orderOf", 1, 5).due(2, "orderOf", 5, 5).due(0, "whom", 0, 0);
    }

    @Sentence(of = 36, says = "BEYOND.")
    static void p36Beyond() {
        town().within(0, 0, 2, "whom", 0, 0).within(1, 0, 6, "whom", 0, 0);
        new Run().refuses(BEYOND, "whom", 0, 0);
    }

    @Sentence(of = 36, says = "NONE: to nobody.")
    static void p36None() {
        Run r = town();
        // called off; without a WAY; placed ahead of all RIDERS
        r.refuses(NONE, "whom", 0, 2).refuses(NONE, "whom", 0, 4).refuses(NONE, "whom", 2, 4);
        Run early = new Run();
        early.call("kitchen", 0, 1);
        early.call("order", 0, 0, 10, 0);
        int text = early.text("1");
        early.refuses(NONE, "whom", text, 0).go(1).call("rider", 0, 0);
        early.refuses(NONE, "whom", text, 0);
    }

    // ---- spots, sheets

    @Sentence(of = 37, says = "A SPOT holds a RIDER, or nothing (-1): 1.")
    static void p37Holds() {
        Run r = town();
        r.due(1, "hold", 0, 4).due(4, "as", 0, 0).due(1, "hold", 9, 0).due(0, "as", 9, 0);
        r.due(1, "hold", 0, -1).due(MISSING, "as", 0, 0).due(1, "hold", 0, -1).due(0, "as", 9, 0);
        // one RIDER in several SPOTS
        r.due(1, "hold", 0, 0).due(0, "as", 0, 0).due(0, "as", 9, 0);
    }

    @Sentence(of = 37, says = "BEYOND.")
    static void p37Beyond() {
        town().within(0, 0, 9, "hold", 0, 0).within(1, -1, 4, "hold", 0, 0).within(0, 0, 9, "hold", 0, -1);
        new Run().refuses(BEYOND, "hold", 0, 0).due(1, "hold", 0, -1);
    }

    @Sentence(of = 38, says = "What a SPOT holds as one of a kind (0 to 6): the number of the RIDER.")
    static void p38As() {
        Run r = town();
        r.due(3, "as", 0, 0).due(3, "as", 0, 3).due(3, "as", 0, 6).due(0, "as", 1, 0);
        r.call("rider", 5, 0);
        r.call("hold", 9, 5);
        r.due(5, "as", 9, 0).due(5, "as", 9, 1).due(5, "as", 9, 5);
    }

    @Sentence(of = 38, says = "BEYOND.")
    static void p38Beyond() {
        town().within(0, 0, 9, "as", 0, 0).within(1, 0, 6, "as", 0, 0).within(1, 0, 6, "as", 5, 0);
    }

    @Sentence(of = 38, says = "MISSING: it holds nothing.")
    static void p38Missing() {
        Run r = town();
        for (int kind = 0; kind <= 6; kind++) {
            r.refuses(MISSING, "as", 2, kind).refuses(MISSING, "as", 9, kind);
        }
        r.call("hold", 0, -1);
        r.refuses(MISSING, "as", 0, 6);
    }

    @Sentence(of = 38, says = "KIND: it isn't of that kind, nor of one under it.")
    static void p38Kind() {
        Run r = town();
        // a NEWCOMER, and a RIDER as those under it
        for (int kind : new int[] {1, 2, 4, 5}) {
            r.refuses(KIND, "as", 0, kind);
        }
        for (int kind = 1; kind <= 6; kind++) {
            r.refuses(KIND, "as", 1, kind);
        }
        r.call("hold", 2, 1);
        r.due(1, "as", 2, 1).refuses(KIND, "as", 2, 4).refuses(KIND, "as", 2, 5).refuses(KIND, "as", 2, 3);
    }

    @Sentence(of = 39, says = "A sheet has n numbers, all 0, of 8, 16 or 32 bits; bits 0: it is MISSING: n (0 if it is "
            + "MISSING).")
    static void p39Has() {
        Run r = new Run();
        for (int bits : new int[] {8, 16, 32}) {
            r.due(60, "sheet", 3, bits, 60).due(1, "write", 3, 59, 7).due(0, "roads", 3);
            row(r, 3, bits, 0, 1, 2);
            r.due(1, "roads", 3);
            // all 0 again, whatever stood there
            r.due(3, "sheet", 3, bits, 3).due(0, "roads", 3);
            r.due(1, "write", 3, 1, 1).due(1, "write", 3, 2, 1).due(1, "roads", 3);
            r.due(0, "sheet", 3, bits, 0).due(BEYOND, "write", 3, 0, 0);
            for (int n : new int[] {0, 1, 60}) {
                r.due(1, "sheet", 3, bits, 1).due(0, "sheet", 3, 0, n).due(MISSING, "write", 3, 0, 0);
            }
        }
    }

    @Sentence(of = 39, says = "BEYOND: no such sheet, other bits.")
    static void p39Beyond() {
        Run r = town();
        r.within(0, 0, 3, "sheet", 0, 8, 1);
        for (int bits : new int[] {-8, -1, 1, 7, 9, 15, 17, 24, 31, 33, 64, MIN, MAX}) {
            r.refuses(BEYOND, "sheet", 0, bits, 1).refuses(BEYOND, "sheet", 0, bits, -1);
        }
        r.refuses(BEYOND, "sheet", 4, 8, -1).refuses(BEYOND, "sheet", -1, 0, -1);
    }

    @Sentence(of = 39, says = "SIZE: n is below 0 (also with bits 0).")
    static void p39Size() {
        Run r = town();
        for (int bits : new int[] {0, 8, 16, 32}) {
            r.refuses(SIZE, "sheet", 0, bits, -1).refuses(SIZE, "sheet", 3, bits, MIN);
            r.twin().due(0, "sheet", 0, bits, 0);
        }
    }

    @Sentence(of = 39, says = "BEYOND: n is above 60 (likewise).")
    static void p39Above() {
        Run r = town();
        for (int bits : new int[] {0, 8, 16, 32}) {
            r.refuses(BEYOND, "sheet", 0, bits, 61).refuses(BEYOND, "sheet", 3, bits, MAX);
            r.twin().due(bits == 0 ? 0 : 60, "sheet", 0, bits, 60);
        }
    }

    /** What a number of a sheet becomes: whether it is the MINUTES of a ROAD, from 1 to 60, and which. */
    private static void becomes(int minutes, int bits, int v) {
        Run r = new Run();
        row(r, 0, bits, 0, 1);
        r.due(3, "sheet", 1, bits, 3).due(2, "copy", 0, 0, 1, 0, 2).due(1, "write", 1, 2, v);
        r.due(minutes == 0 ? 0 : 1, "roads", 1).due(minutes == 0 ? NONE : minutes, "way", 0, 1);
    }

    @Sentence(of = 40, says = WRITTEN)
    static void p40Becomes() {
        becomes(60, 8, 60);
        becomes(5, 8, 256 + 5);
        becomes(5, 8, 5 - 256);
        becomes(5, 8, MIN + 5);
        becomes(0, 8, 255);
        becomes(0, 8, 256);
        becomes(0, 16, 256 + 5);
        becomes(5, 16, 65536 + 5);
        becomes(5, 16, MIN + 5);
        becomes(0, 16, 65535);
        becomes(0, 32, 65536 + 5);
        becomes(0, 32, MIN + 5);
        becomes(5, 32, 5);
    }

    @Sentence(of = 40, says = WRITTEN)
    static void p40Sign() {
        // -1 tells nobody: what is -1 in its bits is judged so
        int[][] rows = {{8, -1, 255, -257, 65535, MAX}, {16, -1, 65535, -65537, MAX, MAX}, {32, -1, -1, -1, -1, -1}};
        for (int[] row : rows) {
            for (int i = 1; i < row.length; i++) {
                Run r = new Run();
                r.call("kitchen", 0, 1);
                r.call("order", 0, 0, 10, 0);
                r.text("1");
                row(r, 0, row[0], row[i]);
                r.due(0, "judge", 0, 0);
            }
        }
        int[][] none = {{8, 127}, {8, 128}, {8, 1}, {16, 255}, {16, 32767}, {32, 65535}, {32, MAX}, {32, MIN}};
        for (int[] row : none) {
            Run r = new Run();
            r.call("kitchen", 0, 1);
            r.call("order", 0, 0, 10, 0);
            r.text("1");
            row(r, 0, row[0], row[1]);
            r.due(1, "judge", 0, 0);
        }
    }

    @Sentence(of = 40, says = "BEYOND: no such sheet.")
    static void p40Beyond() {
        town().within(0, 0, 3, "write", 0, 0, 0).refuses(BEYOND, "write", 4, -1, 0);
    }

    @Sentence(of = 40, says = "MISSING.")
    static void p40Missing() {
        Run r = town();
        r.refuses(MISSING, "write", 3, 0, 0).refuses(MISSING, "write", 3, -1, 0).refuses(MISSING, "write", 3, 60, 0);
        r.call("sheet", 0, 0, 6);
        r.refuses(MISSING, "write", 0, 0, 0);
    }

    @Sentence(of = 40, says = "BEYOND: no such number.")
    static void p40NoNumber() {
        Run r = town();
        r.within(1, 0, 5, "write", 0, 0, 1).within(1, 0, 2, "write", 1, 0, 1);
        r.due(60, "sheet", 0, 8, 60).within(1, 0, 59, "write", 0, 0, 1);
        r.due(0, "sheet", 0, 8, 0).refuses(BEYOND, "write", 0, 0, 1).refuses(BEYOND, "write", 0, -1, 1);
    }

    @Sentence(of = 41, says = "n numbers of a sheet from one on come to another one from one on (as they all were): n.")
    static void p41Come() {
        Run r = new Run();
        row(r, 0, 8, 1, 2, 3, 4, 5, 6);
        row(r, 1, 8, 0, 0, 0);
        r.due(0, "copy", 0, 0, 1, 0, 0).due(0, "roads", 1);
        r.due(3, "copy", 0, 3, 1, 0, 3).due(1, "roads", 1).due(6, "way", 4, 5);
        r.due(1, "copy", 0, 0, 1, 2, 1).due(1, "roads", 1).due(1, "way", 4, 5);
        // onto itself, ahead and back: 1 1 2 3 4 5, then 1 2 3 4 5 5
        r.due(5, "copy", 0, 0, 0, 1, 5).due(3, "copy", 0, 1, 1, 0, 3).due(1, "roads", 1).due(3, "way", 1, 2);
        r.due(5, "copy", 0, 1, 0, 0, 5).due(3, "copy", 0, 2, 1, 0, 3).due(1, "roads", 1).due(5, "way", 3, 4);
        r.due(6, "copy", 0, 0, 0, 0, 6).due(0, "copy", 0, 6, 1, 3, 0);
        for (int bits : new int[] {8, 16, 32}) {
            Run full = new Run();
            full.call("sheet", 0, bits, 60);
            full.call("sheet", 3, bits, 60);
            full.call("write", 0, 57, 7);
            full.call("write", 0, 58, 8);
            full.call("write", 0, 59, 9);
            full.due(60, "copy", 0, 0, 3, 0, 60).due(3, "copy", 3, 57, 3, 0, 3).due(1, "roads", 3);
            full.due(9, "way", 7, 8);
        }
    }

    @Sentence(of = 41, says = "BEYOND: no such sheet (either).")
    static void p41Beyond() {
        Run r = town();
        r.within(0, 0, 3, "copy", 0, 0, 2, 0, 1).within(2, 0, 3, "copy", 0, 0, 2, 0, 1);
        r.refuses(BEYOND, "copy", 4, 0, 4, 0, 0).refuses(BEYOND, "copy", 3, 0, 4, 0, 0);
        r.refuses(BEYOND, "copy", -1, 0, 3, 0, 0);
    }

    @Sentence(of = 41, says = "MISSING: one is.")
    static void p41Missing() {
        Run r = town();
        r.refuses(MISSING, "copy", 3, 0, 0, 0, 0).refuses(MISSING, "copy", 0, 0, 3, 0, 0);
        r.refuses(MISSING, "copy", 3, 0, 3, 0, 0).refuses(MISSING, "copy", 1, -1, 3, -1, -1);
    }

    @Sentence(of = 41, says = "KIND: they are not of as many bits.")
    static void p41Kind() {
        int[] some = {8, 16, 32};
        for (int one : some) {
            for (int other : some) {
                Run r = new Run();
                r.call("sheet", 0, one, 2);
                r.call("sheet", 1, other, 2);
                if (one == other) {
                    r.due(2, "copy", 0, 0, 1, 0, 2);
                } else {
                    r.refuses(KIND, "copy", 0, 0, 1, 0, 2).refuses(KIND, "copy", 0, 0, 1, 0, 0);
                    r.refuses(KIND, "copy", 0, -1, 1, 0, 61);
                }
            }
        }
    }

    @Sentence(of = 41, says = "BEYOND: one has not so many, or from, to or n is below 0.")
    static void p41NotSoMany() {
        Run r = town();
        // six numbers to four
        r.within(4, 0, 4, "copy", 0, 0, 2, 0, 0).within(4, 0, 4, "copy", 2, 0, 0, 0, 0);
        r.within(1, 0, 4, "copy", 0, 0, 2, 0, 2).within(3, 0, 2, "copy", 0, 0, 2, 0, 2);
        r.within(1, 0, 6, "copy", 0, 0, 2, 0, 0).within(3, 0, 4, "copy", 0, 0, 2, 0, 0);
        r.refuses(BEYOND, "copy", 0, 1, 2, 1, MAX).refuses(BEYOND, "copy", 0, MAX, 2, 0, MAX);
        r.refuses(BEYOND, "copy", 0, 3, 2, 2, MIN).refuses(BEYOND, "copy", 0, -1, 2, 0, 2);
        r.refuses(BEYOND, "copy", 0, 0, 2, -1, 2).refuses(BEYOND, "copy", 0, 1, 0, 0, 6);
    }

    @Sentence(of = 42, says = "ROADS come from a sheet: threes (two CROSSINGS, MINUTES), from its begin on: "
            + "how many came.")
    static void p42Come() {
        Run r = new Run();
        row(r, 0, 8, 0, 15, 60, 15, 1, 1);
        r.due(2, "roads", 0).due(61, "way", 0, 1).due(2, "roads", 0);
        // one that does not count, as a lesser one was told, came all the same
        row(r, 1, 16, 1, 15, 60, 0, 15, 59);
        r.due(2, "roads", 1).due(1, "way", 15, 1).due(59, "way", 0, 15);
        // twenty of them
        Run all = new Run();
        all.call("sheet", 0, 32, 60);
        for (int i = 0; i < 20; i++) {
            all.call("write", 0, 3 * i, i % 15);
            all.call("write", 0, 3 * i + 1, i % 15 + 1);
            all.call("write", 0, 3 * i + 2, 1 + i % 15);
        }
        all.due(20, "roads", 0).due(120, "way", 0, 15);
    }

    @Sentence(of = 42, says = "It ends at the first three that is no ROAD, or isn't whole.")
    static void p42Ends() {
        int[][] wrong = {{-1, 5, 5}, {16, 5, 5}, {5, -1, 5}, {5, 16, 5}, {5, 5, 5}, {5, 6, 0}, {5, 6, 61}, {5, 6, -1}};
        for (int[] three : wrong) {
            Run r = new Run();
            row(r, 0, 8, 0, 1, 9, three[0], three[1], three[2], 1, 2, 9);
            r.due(1, "roads", 0).due(9, "way", 0, 1).due(NONE, "way", 1, 2).due(NONE, "way", 5, 6);
            row(r, 0, 8, three[0], three[1], three[2], 1, 2, 9);
            r.due(0, "roads", 0).due(NONE, "way", 1, 2).due(0, "status", 0);
        }
        int[] came = {0, 0, 0, 1, 1, 1, 2};
        for (int n = 0; n <= 6; n++) {
            Run r = new Run();
            r.call("sheet", 0, 8, n);
            for (int i = 0; i < n; i++) {
                r.call("write", 0, i, new int[] {0, 1, 9, 1, 2, 9}[i]);
            }
            r.due(came[n], "roads", 0).due(n < 3 ? NONE : 9, "way", 0, 1).due(n < 6 ? NONE : 9, "way", 1, 2);
        }
    }

    @Sentence(of = 42, says = "BEYOND: no such sheet.")
    static void p42Beyond() {
        town().within(0, 0, 3, "roads", 0);
    }

    @Sentence(of = 42, says = "MISSING.")
    static void p42Missing() {
        Run r = town();
        r.refuses(MISSING, "roads", 3).call("sheet", 0, 0, 6);
        r.refuses(MISSING, "roads", 0);
    }

    @Sentence(of = 43, says = "THE READER: numbers of a sheet are, by ORDERS, to whom each is GIVEN in a NIGHT "
            + "by a TEXT (-1: nobody): 0 if they are just so; else 1 more than how many of them, from the first "
            + "on, are right (so, too, if there are too few, too many).")
    static void p43Reader() {
        Run r = town();
        // by n: 3 takes all but the one called off and the one without a WAY
        int[] due = {3, 3, -1, 3, -1, 3, 3};
        row(r, 0, 8, due);
        r.due(0, "judge", 0, 2);
        row(r, 1, 32, due);
        r.due(0, "judge", 1, 2);
        for (int i = 0; i < 7; i++) {
            Run wrong = r.twin();
            wrong.call("write", 0, i, 4);
            wrong.call("write", 0, 6, 4);
            wrong.due(i + 1, "judge", 0, 2);
            // too few, all of them right
            Run few = r.twin();
            few.call("sheet", 2, 8, i);
            few.call("copy", 0, 0, 2, 0, i);
            few.due(i + 1, "judge", 2, 2);
        }
        // too many, all of the ORDERS right
        for (int more = 8; more <= 60; more += 52) {
            r.call("sheet", 2, 8, more);
            r.call("copy", 0, 0, 2, 0, 7);
            r.due(8, "judge", 2, 2);
            r.call("write", 2, 7, -1);
            r.due(8, "judge", 2, 2);
        }
        // 24 ORDERS, all but the last of them right, then all
        Run all = new Run();
        all.call("kitchen", 0, 1);
        all.call("rider", 0, 0);
        all.text("1");
        all.call("sheet", 0, 8, 24);
        for (int o = 0; o < 24; o++) {
            all.call("order", 0, 0, 10, 0);
        }
        all.due(0, "judge", 0, 0).call("write", 0, 23, -1);
        all.due(24, "judge", 0, 0).call("sheet", 0, 8, 23);
        all.due(24, "judge", 0, 0).call("sheet", 0, 8, 25);
        all.due(25, "judge", 0, 0);
        // no ORDERS
        Run none = new Run();
        none.text("1");
        none.call("sheet", 0, 8, 0);
        none.due(0, "judge", 0, 0).call("sheet", 0, 8, 1);
        none.due(1, "judge", 0, 0).call("write", 0, 0, -1);
        none.due(1, "judge", 0, 0);
    }

    @Sentence(of = 43, says = "BEYOND: no such sheet.")
    static void p43Beyond() {
        town().within(0, 0, 3, "judge", 0, 0).refuses(BEYOND, "judge", 4, 3);
    }

    @Sentence(of = 43, says = "MISSING.")
    static void p43Missing() {
        town().refuses(MISSING, "judge", 3, 0).refuses(MISSING, "judge", 3, 3).refuses(MISSING, "judge", 3, -1);
    }

    @Sentence(of = 43, says = "BEYOND: no such TEXT.")
    static void p43NoText() {
        town().within(1, 0, 2, "judge", 0, 0);
        Run r = new Run();
        r.call("sheet", 0, 8, 0);
        r.refuses(BEYOND, "judge", 0, 0);
    }

    // ---- images

    @Sentence(of = 44, says = ALL_BUT)
    static void p44Kept() {
        Run r = town().go(4);
        Run was = r.twin();
        r.due(1, "image");
        change(r);
        r.due(11, "undo");
        // what was fed and written stands
        r.due(4, "count", 6).due(1, "roads", 2).due(MISSING, "roads", 1).due(9, "way", 8, 9);
        r.call("undo");
        was.call("image");
        for (int part = 0; part <= 5; part++) {
            if (part != 3) {
                int[] before = Everything.answers(was.twin(), part);
                int[] after = Everything.answers(r.twin(), part);
                for (int i = 0; i < before.length; i++) {
                    // but for how many bytes THE TAPE has
                    boolean tape = part == 0 && i == 6 || part == 5 && i == before.length - 1;
                    Due.isTrue("answer " + i + " of part " + part, tape || before[i] == after[i]);
                }
            }
        }
        for (int t = 0; t < 3; t++) {
            r.due(was.call("says", t, 0, 0), "says", t, 0, 0).due(was.call("night", t, 1), "night", t, 1);
        }
        r.due(0, "force", 0, -1).due(1, "force", 1, -1).due(60, "law", 0).due(3, "count", 5);
    }

    @Sentence(of = 44, says = ALL_BUT)
    static void p44LastRows() {
        Run r = new Run().go(3);
        r.call("road", 14, 15, 10);
        r.call("kitchen", 15, 1);
        for (int i = 0; i < 24; i++) {
            r.call("rider", 0, 14);
            r.call("order", 0, 14, 10, 0);
        }
        r.call("force", 1, r.text("50"));
        r.due(1, "refuse", 10, 21).due(23, "give", 11, 22).due(10, "orderOf", 22, 8);
        Run was = r.twin();
        was.call("image");
        r.due(1, "image").go(9).due(32, "give", 9, 23).due(43, "give", 11, 19).due(1, "app", 11, 0, 1439);
        r.due(2, "refuse", 10, 20).due(1, "callOff", 18).due(1, "road", 14, 15, 1).due(0, "crossing", 15, 0, 9);
        r.due(3, "undo").isLike(was).due(9, "road", 15, 14, 9).due(3, "undo").isLike(was);
    }

    /** Something of each kind is changed. */
    private static void change(Run r) {
        r.call("minutes", 90);
        r.call("road", 0, 3, 1);
        r.call("crossing", 0, 0, 9);
        r.call("crossing", 1, 1, 3);
        r.call("kitchen", 1, 1);
        r.call("order", 3, 1, 10, 0);
        r.call("rider", 4, 1);
        r.call("give", 0, 0);
        r.call("callOff", 3);
        r.call("refuse", 0, 4);
        r.call("force", 0, 2);
        r.call("force", 1, -1);
        r.call("law", 999);
        r.call("rain", 0, 1439, 99);
        r.call("app", 1, 0, 1439);
        r.call("seen", 1, 0, 0);
        r.call("hold", 0, 4);
        r.call("hold", 5, 4);
        r.call("wipe");
        r.text("9");
        r.feed("1234");
        row(r, 2, 16, 8, 9, 9);
        r.call("sheet", 1, 0, 0);
    }

    @Sentence(of = 45, says = "It becomes what was kept latest (which stays): NOW.")
    static void p45Undo() {
        Run r = new Run();
        r.due(1, "image").go(1439).due(0, "undo").due(0, "count", 0);
        r.go(1439).due(1, "image").due(1439, "undo").due(1439, "undo");
        Run two = new Run();
        two.due(1, "image").go(3).call("road", 0, 1, 5);
        two.due(1, "image").go(4).call("road", 0, 1, 2);
        // the latest alone, again and again, whatever is done in between
        two.due(3, "undo").due(5, "way", 0, 1).go(9).call("road", 0, 1, 1);
        two.due(3, "undo").due(5, "way", 0, 1).due(3, "undo").due(5, "road", 0, 1, 6).due(60, "road", 1, 2, 60);
        two.due(3, "undo").due(59, "road", 1, 2, 59).due(64, "way", 0, 2).due(1, "tear").refuses(NONE, "undo");
    }

    @Sentence(of = 45, says = "NONE: nothing is kept.")
    static void p45None() {
        new Run().refuses(NONE, "undo");
        Run r = town();
        r.call("tear");
        r.refuses(NONE, "undo").due(7, "count", 0).due(1, "image").due(7, "undo");
    }

    @Sentence(of = 46, says = "Nothing is kept: 1 if something was, else 0.")
    static void p46Tear() {
        Run r = new Run();
        r.due(0, "tear").due(1, "image").due(1, "image").due(1, "tear").due(0, "tear");
        r.refuses(NONE, "undo").due(0, "tear").due(1, "image").due(0, "undo").due(1, "tear");
        // what stands is not what is kept
        Run town = town();
        town.due(1, "tear").due(7, "count", 0).due(7, "count", 2).due(5, "count", 4);
    }

    @Sentence(of = 47, says = "0 NOW, 1 KITCHENS, 2 ORDERS, 3 of them waiting, 4 RIDERS, 5 TEXTS, 6 bytes of THE TAPE.")
    static void p47What() {
        int[] due = {7, 3, 7, 3, 5, 3, 2};
        Run r = town();
        Run empty = new Run();
        for (int what = 0; what <= 6; what++) {
            r.due(due[what], "count", what);
            empty.due(0, "count", what);
        }
        Run full = new Run().go(1439);
        for (int i = 0; i < 24; i++) {
            full.call("kitchen", 0, 1);
            full.call("rider", 0, 0);
            full.call("order", 0, 0, 10, 0);
            full.text("1");
            full.call("wipe");
        }
        full.feed(" ".repeat(80));
        int[] most = {1439, 6, 24, 24, 12, 8, 80};
        for (int what = 0; what <= 6; what++) {
            full.due(most[what], "count", what);
        }
    }

    @Sentence(of = 47, says = "BEYOND: another what.")
    static void p47Beyond() {
        town().within(0, 0, 6, "count", 0);
    }

    @Sentence(of = 48, says = "How many acts answered a finding ever (undo() takes none back): which -1: all, 0 to 6: "
            + "BEYOND to SIZE.")
    static void p48HowMany() {
        Run r = town();
        int[] was = new int[8];
        for (int f = -1; f <= 6; f++) {
            was[f + 1] = r.call("status", f);
        }
        r.call("image");
        r.call("way", 16, 0);
        r.call("feed", 0, 5);
        r.call("as", 0, 1);
        r.call("way", 0, 15);
        r.call("give", 0, 1);
        r.call("roads", 3);
        r.call("sheet", 0, 8, -1);
        r.feed("1".repeat(80));
        r.call("undo");
        int[] due = {was[0] + 8, was[1] + 2, was[2] + 1, was[3] + 1, was[4] + 1, was[5] + 1, was[6] + 1, was[7] + 1};
        for (int f = -1; f <= 6; f++) {
            r.due(due[f + 1], "status", f);
        }
        // no act that answers something else is counted, a FAULT neither
        r.call("text");
        r.due(due[0], "status", -1).due(1, "tear").due(NONE, "undo").due(due[0] + 1, "status", -1);
    }

    @Sentence(of = 48, says = "BEYOND (counted from then on): another one.")
    static void p48Beyond() {
        Run r = new Run();
        r.due(BEYOND, "status", 7).due(1, "status", 0).due(1, "status", -1);
        r.due(BEYOND, "status", -2).due(2, "status", 0).due(BEYOND, "status", MIN).due(BEYOND, "status", MAX);
        r.due(4, "status", 0).due(4, "status", -1).due(0, "status", 6);
        town().within(0, -1, 6, "status", 0);
    }
}
