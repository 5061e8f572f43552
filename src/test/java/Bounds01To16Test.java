/** The sentences of promises 1 to 16, one test each. */
public final class Bounds01To16Test extends Bounds {
    public static void main(String[] args) throws Exception {
        run(Bounds01To16Test.class);
    }

    @Sentence(of = 1, says = "All as at first; no ROADS, KITCHENS, ORDERS, RIDERS, TEXTS; THE TAPE is empty, "
            + "no image is kept.")
    static void p01AtFirst() {
        Run r = new Run();
        for (int what = 0; what <= 6; what++) {
            r.due(0, "count", what);
        }
        for (int f = -1; f <= 6; f++) {
            r.due(0, "status", f);
        }
        r.due(0, "wipe").due(0, "tear").refuses(NONE, "undo");
        r.due(-1, "force", 0, -1).due(-1, "force", 1, -1).due(0, "law", 0);
        r.refuses(NONE, "way", 0, 1).refuses(NONE, "starves", 0).refuses(STATE, "offerAll");
        r.refuses(BEYOND, "orderOf", 0, 0).refuses(BEYOND, "riderOf", 0, 0);
        r.refuses(BEYOND, "night", 0, 0).refuses(BEYOND, "order", 0, 0, 10, 0);
        r.refuses(BEYOND, "hold", 0, 0).refuses(MISSING, "as", 0, 0).refuses(MISSING, "roads", 0);
        for (int zone = 0; zone < 4; zone++) {
            for (int what = 0; what <= 3; what++) {
                r.due(0, "zone", zone, what);
            }
        }
        r.due(0, "kitchen", 0, 1).due(0, "order", 0, 0, 10, 0).due(0, "rider", 0, 0);
        r.due(1, "rain", 0, 0, 1).due(1, "app", 0, 0, 1).due(1, "seen", 0, 0, 0);
        Due.is("its first TEXT", 0, r.text("1"));
        // one object's calls are nothing to another
        new Run().due(0, "count", 1).due(0, "count", 2).due(0, "count", 4).due(0, "count", 5);
    }

    // ---- the town

    @Sentence(of = 2, says = "HEIGHT (what 0), ZONE (1) of a CROSSING becomes v: what it was.")
    static void p02Becomes() {
        Run r = new Run();
        for (int c = 0; c <= 15; c += 15) {
            r.due(0, "crossing", c, 0, 9).due(0, "crossing", c, 1, 3);
            r.due(9, "crossing", c, 0, 9).due(3, "crossing", c, 1, 3);
            r.due(9, "crossing", c, 0, 0).due(3, "crossing", c, 1, 0);
            r.due(0, "crossing", c, 0, 1).due(0, "crossing", c, 1, 1);
        }
        r.due(0, "crossing", 14, 0, 0).due(0, "crossing", 1, 1, 0);
    }

    @Sentence(of = 2, says = "BEYOND.")
    static void p02Beyond() {
        Run r = town();
        r.within(0, 0, 15, "crossing", 0, 0, 1).within(0, 0, 15, "crossing", 0, 1, 1);
        r.within(1, 0, 1, "crossing", 0, 0, 1);
        r.within(2, 0, 9, "crossing", 0, 0, 0).within(2, 0, 3, "crossing", 0, 1, 0);
        r.refuses(BEYOND, "crossing", MIN, MIN, MIN).refuses(BEYOND, "crossing", MAX, MAX, MAX);
    }

    @Sentence(of = 3, says = "A ROAD: the MINUTES that count then.")
    static void p03Counts() {
        Run r = new Run();
        r.due(60, "road", 0, 15, 60).due(59, "road", 15, 0, 59).due(59, "road", 0, 15, 59);
        r.due(59, "road", 0, 15, 60).due(1, "road", 0, 15, 1).due(1, "road", 15, 0, 2);
        r.due(60, "road", 0, 14, 60).due(1, "way", 0, 15).due(61, "way", 14, 15);
    }

    @Sentence(of = 3, says = "BEYOND: also from a CROSSING to itself.")
    static void p03Beyond() {
        Run r = town();
        r.within(0, 0, 15, "road", 0, 8, 1).within(1, 0, 15, "road", 8, 0, 1);
        r.within(2, 1, 60, "road", 0, 8, 1);
        for (int c = 0; c <= 15; c++) {
            r.refuses(BEYOND, "road", c, c, 5);
        }
        r.due(0, "way", 4, 4).refuses(BEYOND, "road", 16, 16, 5);
    }

    @Sentence(of = 4, says = "WAY.")
    static void p04Way() {
        Run r = new Run();
        r.call("road", 0, 15, 7);
        r.due(7, "way", 0, 15).due(7, "way", 15, 0).due(0, "way", 0, 0).due(0, "way", 15, 15);
        r.call("crossing", 15, 0, 9);
        r.due(16, "way", 0, 15).due(7, "way", 15, 0);
    }

    @Sentence(of = 4, says = "BEYOND.")
    static void p04Beyond() {
        Run r = town();
        r.within(0, 0, 15, "way", 0, 0).within(1, 0, 15, "way", 0, 0);
        r.refuses(BEYOND, "way", 16, 16).refuses(BEYOND, "way", -1, -1);
    }

    @Sentence(of = 4, says = "NONE.")
    static void p04None() {
        Run r = town();
        r.refuses(NONE, "way", 0, 15).refuses(NONE, "way", 15, 0).refuses(NONE, "way", 9, 3);
        r.due(0, "way", 9, 9);
        r.call("road", 9, 15, 60);
        r.refuses(NONE, "way", 0, 15).due(60, "way", 9, 15);
        r.call("road", 15, 3, 60);
        r.due(60 + 35 + 3, "way", 15, 0).due(120 + 35 + 3, "way", 0, 9);
    }

    @Sentence(of = 5, says = "n MINUTES (1 to 600) go: NOW.")
    static void p05Go() {
        Run r = new Run();
        r.due(1, "minutes", 1).due(601, "minutes", 600).due(1201, "minutes", 600);
        r.due(1201, "count", 0).due(1438, "minutes", 237).due(1439, "minutes", 1).due(1439, "count", 0);
    }

    @Sentence(of = 5, says = "BEYOND: n.")
    static void p05Beyond() {
        town().within(0, 1, 600, "minutes", 1);
        new Run().go(1439).within(0, 1, 600, "minutes", 1);
    }

    @Sentence(of = 5, says = "STATE: it would be above 1439.")
    static void p05State() {
        Run r = new Run().go(840);
        r.twin().due(1439, "minutes", 599);
        r.refuses(STATE, "minutes", 600).due(841, "minutes", 1).refuses(STATE, "minutes", 599);
        r.due(1439, "minutes", 598).refuses(STATE, "minutes", 1).refuses(STATE, "minutes", 600);
        r.due(1439, "count", 0);
    }

    // ---- kitchens, orders, riders

    @Sentence(of = 6, says = "A new KITCHEN: its number.")
    static void p06Number() {
        Run r = new Run();
        r.due(0, "kitchen", 15, 60).due(1, "kitchen", 0, 1).due(2, "kitchen", 0, 1).due(3, "count", 1);
    }

    @Sentence(of = 6, says = "BEYOND.")
    static void p06Beyond() {
        town().within(0, 0, 15, "kitchen", 0, 1).within(1, 1, 60, "kitchen", 0, 1);
    }

    @Sentence(of = 6, says = "FULL.")
    static void p06Full() {
        Run r = town();
        r.due(3, "kitchen", 0, 1).due(4, "kitchen", 0, 1).due(5, "kitchen", 0, 1);
        r.refuses(FULL, "kitchen", 0, 1).refuses(FULL, "kitchen", 15, 60);
        r.refuses(BEYOND, "kitchen", 16, 1).refuses(BEYOND, "kitchen", 0, 61).due(6, "count", 1);
        r.due(7, "order", 5, 0, 10, 0).refuses(BEYOND, "order", 6, 0, 10, 0);
    }

    @Sentence(of = 7, says = "A new ORDER: its number.")
    static void p07Number() {
        Run r = new Run();
        r.call("kitchen", 0, 1);
        r.due(0, "order", 0, 15, 120, 60).due(1, "order", 0, 0, 10, 0).due(2, "count", 2);
        // one that is called off keeps its number
        r.due(1, "callOff", 1).due(2, "order", 0, 0, 10, 0).due(3, "count", 2).due(2, "count", 3);
    }

    @Sentence(of = 7, says = "BEYOND.")
    static void p07Beyond() {
        Run r = town();
        r.within(0, 0, 2, "order", 0, 0, 10, 0).within(1, 0, 15, "order", 0, 0, 10, 0);
        r.within(2, 10, 120, "order", 0, 0, 10, 0).within(3, 0, 60, "order", 0, 0, 10, 0);
        new Run().refuses(BEYOND, "order", 0, 0, 10, 0);
    }

    @Sentence(of = 7, says = "FULL.")
    static void p07Full() {
        Run r = town();
        for (int o = 7; o < 24; o++) {
            r.due(o, "order", 0, 0, 10, 0);
        }
        r.refuses(FULL, "order", 0, 0, 10, 0).refuses(FULL, "order", 2, 15, 120, 60);
        r.refuses(BEYOND, "order", 3, 0, 10, 0).refuses(BEYOND, "order", 0, 16, 10, 0);
        r.refuses(BEYOND, "order", 0, 0, 9, 0).refuses(BEYOND, "order", 0, 0, 10, 61).due(24, "count", 2);
        // nor is there room behind one that is called off
        r.due(1, "callOff", 23).refuses(FULL, "order", 0, 0, 10, 0);
    }

    @Sentence(of = 8, says = "Of an ORDER: what 0 KITCHEN, 1 its CROSSING, 2 the MINUTE at which it was placed, "
            + "3 READY, 4 its state, 5 its RIDER, 6 PICK, 7 DROP, 8 LATE, 9 PAY, 10 RATING.")
    static void p08What() {
        Run r = new Run().go(100);
        r.call("road", 2, 3, 10);
        r.call("kitchen", 0, 60);
        r.call("kitchen", 0, 60);
        r.call("kitchen", 2, 5);
        for (int rider = 0; rider <= 4; rider++) {
            r.call("rider", 0, 3);
        }
        r.call("order", 2, 3, 13, 5);
        r.call("force", 1, r.text("66"));
        r.go(4).call("give", 4, 0);
        // there at 114, READY at 110, dropped at 124, LATE 11; one lacks by each
        int[] due = {2, 3, 100, 110, 1, 4, 114, 124, 11, 66, 47};
        for (int what = 0; what <= 10; what++) {
            r.due(due[what], "orderOf", 0, what);
        }
        r.call("order", 0, 15, 10, 0);
        int[] waiting = {0, 15, 104, 164, 0};
        for (int what = 0; what <= 4; what++) {
            r.due(waiting[what], "orderOf", 1, what);
        }
    }

    @Sentence(of = 8, says = "BEYOND.")
    static void p08Beyond() {
        Run r = town();
        r.within(0, 0, 6, "orderOf", 0, 0).within(1, 0, 10, "orderOf", 1, 0);
        r.within(1, 0, 10, "orderOf", 0, 0).refuses(BEYOND, "orderOf", 7, 5);
        new Run().refuses(BEYOND, "orderOf", 0, 0);
    }

    @Sentence(of = 8, says = "NONE: of 5 and above, if it isn't GIVEN.")
    static void p08None() {
        Run r = town();
        for (int what = 5; what <= 10; what++) {
            r.refuses(NONE, "orderOf", 0, what).refuses(NONE, "orderOf", 2, what);
            Due.isTrue("of a GIVEN one", r.call("orderOf", 1, what) >= 0);
        }
        r.due(0, "orderOf", 0, 4).due(2, "orderOf", 2, 4);
    }

    @Sentence(of = 9, says = "An ORDER is called off: 1.")
    static void p09CalledOff() {
        Run r = town();
        r.due(1, "callOff", 0).due(2, "orderOf", 0, 4).due(2, "count", 3).due(7, "count", 2);
        r.due(1, "callOff", 4).due(1, "count", 3).due(0, "orderOf", 3, 4);
    }

    @Sentence(of = 9, says = "BEYOND.")
    static void p09Beyond() {
        town().within(0, 0, 6, "callOff", 0);
        new Run().refuses(BEYOND, "callOff", 0);
    }

    @Sentence(of = 9, says = "STATE: it isn't waiting.")
    static void p09State() {
        Run r = town();
        r.refuses(STATE, "callOff", 1).refuses(STATE, "callOff", 2).refuses(STATE, "callOff", 6);
        r.due(1, "callOff", 0).refuses(STATE, "callOff", 0);
    }

    @Sentence(of = 10, says = "A new RIDER at a CROSSING: its number.")
    static void p10Number() {
        Run r = new Run();
        r.due(0, "rider", 6, 15).due(1, "rider", 0, 0).due(2, "count", 4);
        r.due(15, "riderOf", 0, 1).due(0, "riderOf", 1, 1).due(6, "riderOf", 0, 0).due(0, "riderOf", 1, 0);
    }

    @Sentence(of = 10, says = "BEYOND.")
    static void p10Beyond() {
        town().within(0, 0, 6, "rider", 0, 0).within(1, 0, 15, "rider", 0, 0);
    }

    @Sentence(of = 10, says = "FULL.")
    static void p10Full() {
        Run r = town();
        for (int i = 5; i < 12; i++) {
            r.due(i, "rider", 0, 0);
        }
        r.refuses(FULL, "rider", 0, 0).refuses(FULL, "rider", 6, 15);
        r.refuses(BEYOND, "rider", 7, 0).refuses(BEYOND, "rider", 0, 16).due(12, "count", 4);
        r.due(0, "riderOf", 11, 3).refuses(BEYOND, "riderOf", 12, 3);
    }

    @Sentence(of = 11, says = "Of a RIDER: what 0 kind, 1 where it is (or will be), 2 from when it is free, 3 how "
            + "many ORDERS it was GIVEN, 4 MINUTES ENGAGED (those of OTHER APPS whole), 5 PAY of all, 6 RATING, "
            + "7 how many ORDERS it refused (as told).")
    static void p11What() {
        Run r = new Run().go(9);
        r.call("road", 0, 1, 10);
        r.call("kitchen", 0, 1);
        r.call("rider", 5, 0);
        int[] first = {5, 0, 9, 0, 0, 0, 25, 0};
        for (int what = 0; what <= 7; what++) {
            r.due(first[what], "riderOf", 0, what);
        }
        r.call("order", 0, 1, 120, 0);
        r.call("order", 0, 1, 120, 0);
        r.call("order", 0, 1, 120, 0);
        r.call("force", 1, r.text("7"));
        // refused, and GIVEN all the same; an OTHER APP takes nothing from MINUTES ENGAGED
        r.call("refuse", 0, 0);
        r.call("refuse", 0, 2);
        r.call("app", 0, 0, 1439);
        r.due(20, "give", 0, 0).due(40, "give", 0, 1);
        // picked at 10 and at 30, 20 behind READY
        int[] then = {5, 1, 40, 2, 31, 14, 47, 2};
        for (int what = 0; what <= 7; what++) {
            r.due(then[what], "riderOf", 0, what);
        }
        // a refused ORDER that is called off, or GIVEN, is told all the same
        r.due(1, "callOff", 2).due(2, "riderOf", 0, 7);
    }

    @Sentence(of = 11, says = "BEYOND.")
    static void p11Beyond() {
        town().within(0, 0, 4, "riderOf", 0, 0).within(1, 0, 7, "riderOf", 0, 0);
        new Run().refuses(BEYOND, "riderOf", 0, 0);
    }

    @Sentence(of = 12, says = "How many MINUTES a RIDER GOES from a CROSSING to another one (or to itself).")
    static void p12Goes() {
        Run r = town();
        // up to 2 in 33 from 0, down in 30
        r.due(33, "goes", 0, 0, 2).due(30, "goes", 0, 2, 0).due(25, "goes", 1, 0, 2).due(20, "goes", 2, 0, 2);
        r.due(68, "goes", 3, 0, 2).due(0, "goes", 0, 15, 15).due(3, "goes", 2, 15, 15).due(0, "goes", 3, 0, 0);
    }

    @Sentence(of = 12, says = "BEYOND.")
    static void p12Beyond() {
        Run r = town();
        r.within(0, 0, 4, "goes", 0, 0, 0).within(1, 0, 15, "goes", 0, 0, 0).within(2, 0, 15, "goes", 0, 0, 0);
        new Run().refuses(BEYOND, "goes", 0, 0, 0);
    }

    @Sentence(of = 12, says = "NONE: there is no WAY.")
    static void p12None() {
        Run r = town();
        for (int rider = 0; rider <= 4; rider++) {
            r.refuses(NONE, "goes", rider, 0, 9).refuses(NONE, "goes", rider, 9, 0);
        }
    }

    // ---- trips

    @Sentence(of = 13, says = "Of the TRIP of a RIDER with an ORDER: what 0 PICK, 1 DROP, 2 LATE.")
    static void p13What() {
        Run r = town();
        // RIDER 0, at the KITCHEN at 7, READY at 5; with ORDER 3 at 40 and 70, LATE 30
        r.due(7, "trip", 0, 0, 0).due(17, "trip", 0, 0, 1).due(0, "trip", 0, 0, 2);
        r.due(40, "trip", 0, 3, 0).due(70, "trip", 0, 3, 1).due(30, "trip", 0, 3, 2);
        // nothing comes of asking
        r.due(0, "riderOf", 0, 1).due(0, "riderOf", 0, 2).due(0, "riderOf", 0, 3).due(0, "orderOf", 0, 4);
    }

    @Sentence(of = 13, says = "BEYOND.")
    static void p13Beyond() {
        Run r = town();
        r.within(0, 0, 4, "trip", 0, 0, 0).within(1, 0, 6, "trip", 0, 0, 0).within(2, 0, 2, "trip", 0, 0, 0);
        new Run().refuses(BEYOND, "trip", 0, 0, 0);
    }

    @Sentence(of = 13, says = "STATE: the ORDER isn't waiting.")
    static void p13State() {
        Run r = town();
        for (int what = 0; what <= 2; what++) {
            r.refuses(STATE, "trip", 0, 1, what).refuses(STATE, "trip", 0, 2, what);
        }
    }

    @Sentence(of = 13, says = "NONE: it isn't.")
    static void p13None() {
        Run r = town();
        for (int what = 0; what <= 2; what++) {
            r.refuses(NONE, "trip", 0, 4, what).refuses(NONE, "trip", 4, 0, what);
        }
        // RIDER 0 with ORDER 0 takes 10 MINUTES, until 1439
        r.go(1422).due(1439, "trip", 0, 0, 1).go(1).refuses(NONE, "trip", 0, 0, 1);
        r.refuses(NONE, "trip", 0, 0, 0).refuses(NONE, "trip", 0, 0, 2);
    }

    @Sentence(of = 14, says = "Of the TRIP with two ORDERS: what 0 which way (0 to 5), 1 LATE of both together, "
            + "2 when it ends, 3 DROP of the one, 4 of the other one.")
    static void p14What() {
        Run r = town();
        // RIDER 0 at 0: 0 at once, by 17 at 1; on to 2 by 40, back at 0 by 70, LATE 30
        int[] due = {0, 30, 70, 17, 70};
        int[] told = {1, 30, 70, 70, 17};
        for (int what = 0; what <= 4; what++) {
            r.due(due[what], "join", 0, 0, 3, what).due(told[what], "join", 0, 3, 0, what);
        }
        r.due(0, "riderOf", 0, 3).due(0, "orderOf", 0, 4).due(0, "orderOf", 3, 4);
    }

    @Sentence(of = 14, says = "BEYOND: also one and the same ORDER.")
    static void p14Beyond() {
        Run r = town();
        r.within(0, 0, 4, "join", 0, 0, 3, 0).within(1, 0, 6, "join", 0, 0, 3, 0);
        r.within(2, 0, 6, "join", 0, 3, 0, 0).within(3, 0, 4, "join", 0, 0, 3, 0);
        for (int o = 0; o <= 6; o++) {
            r.refuses(BEYOND, "join", 0, o, o, 0);
        }
        r.refuses(BEYOND, "join", 0, 7, 7, 0);
    }

    @Sentence(of = 14, says = "STATE: one isn't waiting.")
    static void p14State() {
        Run r = town();
        r.refuses(STATE, "join", 0, 0, 1, 0).refuses(STATE, "join", 0, 1, 0, 4);
        r.refuses(STATE, "join", 0, 0, 2, 0).refuses(STATE, "join", 0, 2, 0, 4);
        r.refuses(STATE, "join", 0, 1, 2, 2).refuses(STATE, "join", 4, 5, 6, 2);
    }

    @Sentence(of = 14, says = "NONE: it isn't.")
    static void p14None() {
        Run r = town();
        for (int what = 0; what <= 4; what++) {
            r.refuses(NONE, "join", 0, 0, 4, what).refuses(NONE, "join", 0, 4, 0, what);
            r.refuses(NONE, "join", 4, 0, 3, what);
        }
        // both take 63 MINUTES, until 1439
        r.go(1369).due(1439, "join", 0, 0, 3, 2).go(1).refuses(NONE, "join", 0, 0, 3, 2);
    }

    @Sentence(of = 15, says = "An ORDER is GIVEN to a RIDER: DROP.")
    static void p15Given() {
        Run r = town();
        r.due(17, "give", 0, 0).due(1, "orderOf", 0, 4).due(0, "orderOf", 0, 5).due(17, "orderOf", 0, 7);
        r.due(1, "riderOf", 0, 1).due(17, "riderOf", 0, 2).due(1, "riderOf", 0, 3).due(2, "count", 3);
        // to one who refused it, and to one who isn't free: all the same
        Run other = town();
        // a NEWCOMER: WAYS of 38 and 10, then of 23 and 30
        other.due(STATE, "refuse", 3, 0).due(7 + 78 + 22, "give", 3, 0).due(1, "riderOf", 3, 3);
        other.due(107, "riderOf", 3, 2).due(107 + 48 + 62, "give", 3, 3).due(0, "riderOf", 3, 1);
    }

    @Sentence(of = 15, says = "BEYOND.")
    static void p15Beyond() {
        town().within(0, 0, 4, "give", 0, 0).within(1, 0, 6, "give", 0, 0);
        new Run().refuses(BEYOND, "give", 0, 0);
    }

    @Sentence(of = 15, says = "STATE: it isn't waiting.")
    static void p15State() {
        Run r = town();
        r.refuses(STATE, "give", 0, 1).refuses(STATE, "give", 1, 1).refuses(STATE, "give", 0, 2);
        r.due(17, "give", 0, 0).refuses(STATE, "give", 0, 0);
    }

    @Sentence(of = 15, says = "NONE: there is no TRIP.")
    static void p15None() {
        Run r = town();
        r.refuses(NONE, "give", 0, 4).refuses(NONE, "give", 4, 0);
        r.go(1422).twin().due(1439, "give", 0, 0);
        r.go(1).refuses(NONE, "give", 0, 0).due(0, "orderOf", 0, 4);
    }

    @Sentence(of = 16, says = "Two ORDERS are GIVEN, JOINED (PAY of each by how it is then): when it ends.")
    static void p16Given() {
        Run r = town();
        r.due(70, "giveTwo", 0, 0, 3).due(1, "orderOf", 0, 4).due(1, "orderOf", 3, 4);
        r.due(17, "orderOf", 0, 7).due(70, "orderOf", 3, 7).due(0, "riderOf", 0, 1).due(70, "riderOf", 0, 2);
        r.due(2, "riderOf", 0, 3).due(63, "riderOf", 0, 4).due(1, "count", 3);
        // c + w: 10 and 7, 30 and 40; a tenth more in the RAIN
        r.due(17 + 1, "orderOf", 0, 9).due(70 + 7, "orderOf", 3, 9);
        // 40 - 3 from READY to PICK and LATE 30: 9 and 6 lack
        r.due(50, "orderOf", 0, 10).due(35, "orderOf", 3, 10).due(42, "riderOf", 0, 6);
    }

    @Sentence(of = 16, says = "BEYOND: also one and the same.")
    static void p16Beyond() {
        Run r = town();
        r.within(0, 0, 4, "giveTwo", 0, 0, 3).within(1, 0, 6, "giveTwo", 0, 0, 3);
        r.within(2, 0, 6, "giveTwo", 0, 3, 0);
        for (int o = 0; o <= 6; o++) {
            r.refuses(BEYOND, "giveTwo", 0, o, o);
        }
    }

    @Sentence(of = 16, says = "STATE.")
    static void p16State() {
        Run r = town();
        r.refuses(STATE, "giveTwo", 0, 0, 1).refuses(STATE, "giveTwo", 0, 1, 0);
        r.refuses(STATE, "giveTwo", 0, 0, 2).refuses(STATE, "giveTwo", 0, 2, 0);
        r.refuses(STATE, "giveTwo", 2, 5, 6);
        r.due(70, "giveTwo", 0, 0, 3).refuses(STATE, "giveTwo", 0, 0, 3).refuses(STATE, "giveTwo", 0, 3, 4);
    }

    @Sentence(of = 16, says = "NONE.")
    static void p16None() {
        Run r = town();
        r.refuses(NONE, "giveTwo", 0, 0, 4).refuses(NONE, "giveTwo", 0, 4, 0).refuses(NONE, "giveTwo", 4, 0, 3);
        r.go(1369).twin().due(1439, "giveTwo", 0, 0, 3);
        r.go(1).refuses(NONE, "giveTwo", 0, 0, 3).due(3, "count", 3);
    }
}
