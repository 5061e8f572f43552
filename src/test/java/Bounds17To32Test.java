/** The sentences of promises 17 to 32, one test each. */
public final class Bounds17To32Test extends Bounds {
    public static void main(String[] args) throws Exception {
        run(Bounds17To32Test.class);
    }

    // ---- texts

    @Sentence(of = 17, says = "THE TAPE gets the n lowest bytes of a number behind it, the highest of these first "
            + "(n 1 to 4): how many it has.")
    static void p17Gets() {
        int bytes = '1' << 24 | '2' << 16 | '3' << 8 | '4';
        int[] due = {4, 34, 234, 1234};
        for (int n = 1; n <= 4; n++) {
            Run r = town();
            r.call("wipe");
            r.due(n, "feed", bytes, n).due(3, "text").due(due[n - 1], "says", 3, 0, 0);
        }
        Run r = town();
        r.due(4, "feed", '7' << 8 | '*', 2).due(5, "feed", '6', 1).due(3, "text");
        // d+7*6, and RIDER 0 is at the KITCHEN
        r.due(42, "says", 3, 0, 0);
        r.due(1, "feed", -1, 1).due(3, "feed", MIN, 2).due(7, "feed", MAX, 4).due(-1, "text");
    }

    @Sentence(of = 17, says = "BEYOND: n.")
    static void p17Beyond() {
        town().within(1, 1, 4, "feed", '1', 1);
    }

    @Sentence(of = 17, says = "FULL.")
    static void p17Full() {
        Run r = town();
        r.feed("1".repeat(74)).due(76, "count", 6);
        r.twin().due(80, "feed", 0, 4).refuses(FULL, "feed", 0, 1).refuses(FULL, "feed", 0, 4);
        r.due(77, "feed", 0, 1).refuses(FULL, "feed", 0, 4);
        r.twin().due(80, "feed", 0, 3);
        r.due(78, "feed", 0, 1).refuses(FULL, "feed", 0, 3).due(79, "feed", 0, 1);
        r.refuses(FULL, "feed", 0, 2).due(80, "feed", 0, 1).refuses(FULL, "feed", 0, 1);
        r.refuses(BEYOND, "feed", 0, 5).refuses(BEYOND, "feed", 0, 0).due(80, "wipe").due(4, "feed", 0, 4);
    }

    @Sentence(of = 18, says = "THE TAPE is empty: how many it had.")
    static void p18Empty() {
        Run r = new Run();
        r.due(0, "wipe").feed("d").due(1, "wipe").due(0, "wipe").due(0, "count", 6);
        r.feed("1".repeat(80)).due(80, "wipe").due(0, "count", 6).due(1, "feed", '1', 1);
        r.due(0, "text").due(0, "wipe").due(0, "status", -1);
    }

    @Sentence(of = 19, says = "THE TAPE is a TEXT, and empty then: its number.")
    static void p19Number() {
        Run r = new Run();
        for (int t = 0; t < 8; t++) {
            r.feed("" + t).due(t, "text").due(0, "count", 6).due(t + 1, "count", 5);
        }
        r.due(0, "status", -1);
    }

    @Sentence(of = 19, says = "FULL (THE TAPE stays).")
    static void p19Full() {
        Run r = town();
        for (int t = 3; t < 8; t++) {
            r.call("wipe");
            Due.is("a TEXT", t, r.text("" + t));
        }
        r.refuses(FULL, "text").due(0, "count", 6);
        r.feed("d+1").refuses(FULL, "text").due(3, "count", 6);
        // full ahead of any FAULT
        r.feed("??").refuses(FULL, "text").due(5, "count", 6).due(8, "count", 5).due(5, "wipe");
    }

    @Sentence(of = 19, says = "With a FAULT: -1 less the FAULT (nothing changes but that THE TAPE is empty; "
            + "no finding).")
    static void p19Fault() {
        String[] texts = {"", "?", "1?", "d+", "(((((((1", " ".repeat(80), "1+".repeat(39) + "1;"};
        int[] due = {-1, -1, -2, -3, -7, -81, -80};
        for (int i = 0; i < texts.length; i++) {
            Run r = town();
            r.call("wipe");
            Run empty = r.twin();
            r.feed(texts[i]).due(due[i], "text").due(0, "count", 6).due(3, "count", 5);
            for (int f = -1; f <= 6; f++) {
                r.due(empty.call("status", f), "status", f);
            }
            r.isLike(empty);
        }
    }

    @Sentence(of = 20, says = "THE RULE (use 0), THE PAY (1) is a TEXT, or none (-1): what it was.")
    static void p20Was() {
        Run r = new Run();
        for (int t = 0; t < 8; t++) {
            r.text("" + t);
        }
        r.due(-1, "force", 0, 7).due(-1, "force", 1, 0).due(7, "force", 0, 7).due(0, "force", 1, 7);
        r.due(7, "force", 0, -1).due(-1, "force", 0, -1).due(7, "force", 1, -1).due(-1, "force", 1, 0);
        r.due(-1, "force", 0, 0).due(0, "force", 0, 0).due(0, "force", 1, -1);
    }

    @Sentence(of = 20, says = "BEYOND.")
    static void p20Beyond() {
        Run r = town();
        r.within(0, 0, 1, "force", 0, 2).within(1, -1, 2, "force", 0, 0).within(1, -1, 2, "force", 1, 0);
        new Run().refuses(BEYOND, "force", 0, 0).refuses(BEYOND, "force", 1, 0).due(-1, "force", 0, -1);
    }

    @Sentence(of = 21, says = "What a TEXT gives for a RIDER and an ORDER (a number that is a finding, too; status() "
            + "does not count it).")
    static void p21Gives() {
        Run r = new Run();
        r.call("kitchen", 0, 1);
        r.call("rider", 0, 0);
        r.call("order", 0, 0, 10, 0);
        for (int f = 0; f <= 6; f++) {
            // -1000001 and below, from a NAME that is 0
            int text = r.text("d-9999*100-" + (101 + f));
            r.due(-1000001 - f, "says", text, 0, 0);
        }
        r.due(-1000008, "says", r.text("-9999*100-108"), 0, 0);
        for (int f = -1; f <= 6; f++) {
            r.due(0, "status", f);
        }
    }

    @Sentence(of = 21, says = "BEYOND.")
    static void p21Beyond() {
        Run r = town();
        r.within(0, 0, 2, "says", 0, 0, 0).within(1, 0, 4, "says", 0, 0, 0).within(2, 0, 6, "says", 0, 0, 0);
        new Run().refuses(BEYOND, "says", 0, 0, 0);
    }

    // ---- offers

    @Sentence(of = 22, says = "To whom an ORDER is OFFERED.")
    static void p22Whom() {
        Run r = town();
        // free are 0, 3 and 4; by -d the nearest with a TRIP
        r.due(0, "offered", 0).due(3, "offered", 3);
        r.call("force", 0, 2);
        r.due(0, "offered", 0).due(3, "offered", 3).due(0, "riderOf", 0, 3).due(0, "orderOf", 0, 4);
    }

    @Sentence(of = 22, says = "BEYOND.")
    static void p22Beyond() {
        town().within(0, 0, 6, "offered", 0);
        new Run().refuses(BEYOND, "offered", 0);
    }

    @Sentence(of = 22, says = "STATE: it isn't waiting, or there is no RULE.")
    static void p22State() {
        Run r = town();
        r.refuses(STATE, "offered", 1).refuses(STATE, "offered", 2).refuses(STATE, "offered", 6);
        r.call("force", 0, -1);
        r.refuses(STATE, "offered", 0).refuses(STATE, "offered", 1).refuses(STATE, "offered", 4);
        r.call("force", 0, 0);
        r.due(0, "offered", 0);
    }

    @Sentence(of = 22, says = "NONE: to nobody.")
    static void p22None() {
        Run r = town();
        // no TRIP with any; all refused; none free; no RIDER at all
        r.refuses(NONE, "offered", 4);
        Run refused = r.twin();
        refused.call("refuse", 0, 0);
        refused.refuses(NONE, "offered", 0);
        r.call("give", 0, 3);
        r.go(21).refuses(NONE, "offered", 0).go(1).due(1, "offered", 0);
        Run empty = new Run();
        empty.call("kitchen", 0, 1);
        empty.call("order", 0, 0, 10, 0);
        empty.call("force", 0, empty.text("1"));
        empty.refuses(NONE, "offered", 0);
    }

    @Sentence(of = 23, says = "A RIDER refuses an ORDER: how many it did.")
    static void p23HowMany() {
        Run r = new Run();
        r.call("kitchen", 0, 1);
        for (int i = 0; i < 12; i++) {
            r.call("rider", 0, 0);
        }
        for (int o = 0; o < 24; o++) {
            r.call("order", 0, 0, 10, 0);
            r.due(o + 1, "refuse", 11, o).due(o + 1, "riderOf", 11, 7);
        }
        r.due(1, "refuse", 0, 23).due(0, "riderOf", 1, 7).due(24, "riderOf", 11, 7);
        r.call("force", 0, r.text("n"));
        r.due(10, "offered", 23);
    }

    @Sentence(of = 23, says = "BEYOND.")
    static void p23Beyond() {
        town().within(0, 0, 4, "refuse", 0, 0).within(1, 0, 6, "refuse", 0, 0);
        new Run().refuses(BEYOND, "refuse", 0, 0);
    }

    @Sentence(of = 23, says = "STATE: the ORDER isn't waiting, or it did so already.")
    static void p23State() {
        Run r = town();
        r.refuses(STATE, "refuse", 3, 0).refuses(STATE, "refuse", 0, 1).refuses(STATE, "refuse", 1, 1);
        r.refuses(STATE, "refuse", 0, 2).due(1, "refuse", 0, 0).refuses(STATE, "refuse", 0, 0);
        r.due(2, "refuse", 0, 3).due(2, "riderOf", 0, 7);
    }

    @Sentence(of = 24, says = "All waiting ORDERS, by numbers, are OFFERED, each GIVEN at once: how many.")
    static void p24HowMany() {
        Run r = town();
        // 0 to RIDER 0 from 7 on, who is busy then; 3 to 3; 4 to nobody
        r.due(2, "offerAll").due(0, "orderOf", 0, 5).due(3, "orderOf", 3, 5).due(0, "orderOf", 4, 4);
        r.due(17, "orderOf", 0, 7).due(1, "count", 3).due(0, "offerAll");
        r.due(2, "orderOf", 2, 4).due(1, "orderOf", 1, 5);
        Run none = new Run();
        none.call("force", 0, none.text("1"));
        none.due(0, "offerAll").due(0, "status", -1);
        // all of 24 to one RIDER, as each takes no MINUTE
        none.call("kitchen", 0, 1);
        for (int o = 0; o < 24; o++) {
            none.call("order", 0, 0, 10, 0);
        }
        none.due(0, "offerAll").call("rider", 0, 0);
        none.go(1).due(24, "offerAll").due(24, "riderOf", 0, 3).due(0, "count", 3);
        // the first to be told is the least number: NAMES are those of then
        Run turns = new Run();
        turns.call("kitchen", 0, 1);
        turns.call("rider", 0, 0);
        turns.call("rider", 0, 0);
        turns.call("order", 0, 0, 10, 0);
        turns.call("order", 0, 0, 10, 0);
        turns.call("order", 0, 0, 10, 0);
        turns.call("force", 0, turns.text("-h"));
        turns.go(1).due(3, "offerAll");
        turns.due(0, "orderOf", 0, 5).due(1, "orderOf", 1, 5).due(0, "orderOf", 2, 5);
    }

    @Sentence(of = 24, says = "STATE: there is no RULE.")
    static void p24State() {
        Run r = town();
        r.call("force", 0, -1);
        r.refuses(STATE, "offerAll").due(3, "count", 3);
        new Run().refuses(STATE, "offerAll");
    }

    // ---- pay, the law

    @Sentence(of = 25, says = "One more RAIN: how many.")
    static void p25HowMany() {
        Run r = new Run();
        for (int n = 1; n <= 6; n++) {
            r.due(n, "rain", 0, 1439, 99);
        }
    }

    @Sentence(of = 25, says = "BEYOND: also if to is below from.")
    static void p25Beyond() {
        Run r = town();
        r.within(0, 0, 1439, "rain", 0, 1439, 1).within(1, 0, 1439, "rain", 0, 0, 1);
        r.within(2, 1, 99, "rain", 0, 0, 1);
        r.refuses(BEYOND, "rain", 8, 7, 1).due(2, "rain", 8, 8, 1).refuses(BEYOND, "rain", 1439, 0, 1);
        r.refuses(BEYOND, "rain", 1440, 1440, 1).refuses(BEYOND, "rain", -1, -1, 1);
    }

    @Sentence(of = 25, says = "FULL.")
    static void p25Full() {
        Run r = town();
        for (int n = 2; n <= 6; n++) {
            r.due(n, "rain", 0, 0, 1);
        }
        r.refuses(FULL, "rain", 0, 0, 1).refuses(FULL, "rain", 0, 1439, 99);
        r.refuses(BEYOND, "rain", 1, 0, 1).refuses(BEYOND, "rain", 0, 0, 100);
    }

    @Sentence(of = 26, says = "LAW becomes v: what it was.")
    static void p26Was() {
        new Run().due(0, "law", 999).due(999, "law", 999).due(999, "law", 0).due(0, "law", 1).due(1, "law", 2);
    }

    @Sentence(of = 26, says = "BEYOND.")
    static void p26Beyond() {
        town().within(0, 0, 999, "law", 0).refuses(BEYOND, "law", 1000).due(60, "law", 0);
    }

    @Sentence(of = 27, says = "One more OTHER APP of a RIDER: how many it has.")
    static void p27HowMany() {
        Run r = new Run();
        r.call("rider", 0, 0);
        r.call("rider", 0, 0);
        r.due(1, "app", 0, 0, 1).due(2, "app", 0, 0, 1439).due(1, "app", 1, 1438, 1439).due(3, "app", 0, 0, 1);
        r.due(4, "app", 0, 0, 1).due(2, "app", 1, 0, 1);
    }

    @Sentence(of = 27, says = "BEYOND: to isn't above from.")
    static void p27Beyond() {
        Run r = town();
        r.within(0, 0, 4, "app", 0, 0, 1).within(1, 0, 1438, "app", 0, 0, 1439);
        r.within(2, 1, 1439, "app", 0, 0, 1);
        r.refuses(BEYOND, "app", 0, 7, 7).refuses(BEYOND, "app", 0, 7, 6).due(1, "app", 0, 7, 8);
        r.refuses(BEYOND, "app", 0, 1439, 1440).refuses(BEYOND, "app", 0, -1, 0);
        new Run().refuses(BEYOND, "app", 0, 0, 1);
    }

    @Sentence(of = 27, says = "FULL.")
    static void p27Full() {
        Run r = town();
        r.due(2, "app", 1, 0, 1).due(3, "app", 1, 0, 1).due(4, "app", 1, 0, 1);
        r.refuses(FULL, "app", 1, 0, 1).refuses(FULL, "app", 1, 0, 1439).refuses(BEYOND, "app", 1, 1, 1);
        r.due(1, "app", 0, 0, 1);
    }

    @Sentence(of = 28, says = "MINUTES ENGAGED of a RIDER that count (what 0), TOP (1).")
    static void p28What() {
        Run r = town();
        // RIDER 1: from 7 at 1 by 18 to 25, by 4 to 29; 13 of 22 within its OTHER APP
        r.due(29, "orderOf", 1, 7).due(22, "riderOf", 1, 4).due(9 + 6, "least", 1, 0);
        // PAY: c 4 and w 25, a tenth more
        r.due(31, "riderOf", 1, 5).due(0, "least", 1, 1);
        r.call("law", 125);
        r.due(32 - 31, "least", 1, 1).due(0, "least", 0, 0).due(0, "least", 0, 1);
    }

    @Sentence(of = 28, says = "BEYOND.")
    static void p28Beyond() {
        town().within(0, 0, 4, "least", 0, 0).within(1, 0, 1, "least", 1, 0);
        new Run().refuses(BEYOND, "least", 0, 0);
    }

    // ---- ratings, bans

    @Sentence(of = 29, says = "What a GIVEN ORDER LACKS: by COOK (part 0), WAY (1), RIDER (2).")
    static void p29What() {
        Run r = new Run();
        r.call("road", 0, 1, 60);
        r.call("kitchen", 0, 1);
        r.call("rider", 0, 0);
        r.call("order", 0, 1, 10, 10);
        r.call("order", 0, 0, 10, 0);
        // READY and picked at 11, dropped at 71, LATE 61; then from 71 on picked at 131, LATE 121
        r.due(71, "give", 0, 0).due(2, "lacks", 0, 0).due(10, "lacks", 0, 1).due(0, "lacks", 0, 2);
        r.due(131, "give", 0, 1).due(0, "lacks", 1, 0).due(24, "lacks", 1, 1).due(32, "lacks", 1, 2);
    }

    @Sentence(of = 29, says = "BEYOND.")
    static void p29Beyond() {
        Run r = town();
        r.within(0, 0, 6, "lacks", 1, 0).within(1, 0, 2, "lacks", 1, 0).within(1, 0, 2, "lacks", 0, 0);
        new Run().refuses(BEYOND, "lacks", 0, 0);
    }

    @Sentence(of = 29, says = "NONE: it isn't GIVEN.")
    static void p29None() {
        Run r = town();
        for (int part = 0; part <= 2; part++) {
            r.refuses(NONE, "lacks", 0, part).refuses(NONE, "lacks", 2, part);
        }
    }

    @Sentence(of = 30, says = "Whether a BAN is proved: 1, 0.")
    static void p30Proved() {
        Run r = town();
        // RIDER 1 picked its one ORDER at 25, READY at 7: 4 lack
        r.due(4, "lacks", 1, 2).due(0, "ban", 1, 46, 1).due(1, "ban", 1, 47, 1).due(1, "ban", 1, 50, 1);
        r.due(0, "ban", 1, 50, 2).due(0, "ban", 1, 0, 1).due(0, "ban", 0, 50, 1).due(0, "ban", 0, 50, 9);
        // the last of all ORDERS counts
        for (int o = 7; o < 24; o++) {
            r.call("order", 0, 1, 30, 0);
        }
        r.go(600).call("give", 0, 23);
        r.due(1, "ban", 0, 1, 1).due(0, "ban", 0, 50, 2);
    }

    @Sentence(of = 30, says = "BEYOND: rider, limit 0 to 50, orders 1 to 9.")
    static void p30Beyond() {
        Run r = town();
        r.within(0, 0, 4, "ban", 0, 50, 1).within(1, 0, 50, "ban", 1, 0, 1).within(2, 1, 9, "ban", 1, 50, 1);
        new Run().refuses(BEYOND, "ban", 0, 50, 1);
    }

    @Sentence(of = 31, says = "A SIGHTING: how many in all.")
    static void p31HowMany() {
        Run r = new Run();
        r.call("rider", 0, 0);
        r.call("rider", 0, 0);
        r.due(1, "seen", 0, 0, 0).due(2, "seen", 1, 15, 1439).due(3, "seen", 0, 0, 0).due(4, "seen", 1, 0, 0);
    }

    @Sentence(of = 31, says = "BEYOND.")
    static void p31Beyond() {
        Run r = town();
        r.within(0, 0, 4, "seen", 0, 0, 0).within(1, 0, 15, "seen", 0, 0, 0).within(2, 0, 1439, "seen", 0, 0, 0);
        new Run().refuses(BEYOND, "seen", 0, 0, 0);
    }

    @Sentence(of = 31, says = "FULL.")
    static void p31Full() {
        Run r = town();
        for (int n = 3; n <= 20; n++) {
            r.due(n, "seen", n % 5, 0, 0);
        }
        r.refuses(FULL, "seen", 0, 0, 0).refuses(FULL, "seen", 4, 15, 1439).refuses(BEYOND, "seen", 5, 0, 0);
        r.refuses(BEYOND, "seen", 0, 16, 0).refuses(BEYOND, "seen", 0, 0, 1440);
    }

    @Sentence(of = 32, says = "How many twos of a RIDER are DOUBLE (what 0); of the first (by numbers of the one told "
            + "first, then of the other): 1 the one, 2 the other one (numbers of SIGHTINGS).")
    static void p32What() {
        Run r = new Run();
        r.call("rider", 0, 0);
        r.call("rider", 0, 0);
        r.call("road", 0, 1, 10);
        r.call("seen", 1, 0, 0);
        r.call("seen", 0, 0, 100);
        r.call("seen", 0, 1, 200);
        r.call("seen", 0, 1, 95);
        r.due(1, "doubles", 0, 0).due(1, "doubles", 0, 1).due(3, "doubles", 0, 2);
        // a two of later numbers, then one of the same first and a lesser other: told by numbers
        r.call("seen", 0, 0, 201);
        r.due(2, "doubles", 0, 0).due(1, "doubles", 0, 1).due(3, "doubles", 0, 2);
        r.due(0, "doubles", 1, 0).call("seen", 1, 9, 0);
        r.due(1, "doubles", 1, 0).due(0, "doubles", 1, 1).due(5, "doubles", 1, 2);
        // all 20 of one RIDER, any two of them DOUBLE
        Run all = new Run();
        all.call("rider", 0, 0);
        for (int i = 0; i < 20; i++) {
            all.call("seen", 0, i % 16, i < 16 ? 5 : 4);
        }
        all.due(20 * 19 / 2 - 4, "doubles", 0, 0).due(0, "doubles", 0, 1).due(1, "doubles", 0, 2);
    }

    @Sentence(of = 32, says = "BEYOND.")
    static void p32Beyond() {
        town().within(0, 0, 4, "doubles", 0, 0).within(1, 0, 2, "doubles", 0, 0);
        new Run().refuses(BEYOND, "doubles", 0, 0);
    }

    @Sentence(of = 32, says = "NONE (1, 2).")
    static void p32None() {
        Run r = town();
        // none seen, one seen, two that are not DOUBLE
        for (int i = 0; i < 3; i++) {
            r.due(0, "doubles", 1, 0).refuses(NONE, "doubles", 1, 1).refuses(NONE, "doubles", 1, 2);
            r.call("seen", 1, 0, 0);
        }
    }
}
