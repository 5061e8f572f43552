/** The Terms' sentences about TEXTS, offers, pay, ratings, nights, spots and sheets, one test each. */
public final class BoundsTermsTextsTest extends Bounds {
    private static final String FAULT =
            "FAULT: the place (from 0) of the first byte of the first TOKEN that can't stand "
            + "there (a letter that is no NAME, a NUMBER above 9999, a byte that begins no TOKEN, a ( or - "
            + "ahead of a ONE while 6 of these are open: its own), or how many bytes there are if it ends "
            + "too early.";

    private static final String PAY =
            "PAY of a GIVEN ORDER: what THE PAY gave as it was GIVEN (0 without one; NAMES of "
            + "its RIDER as ahead of it, and of both that are JOINED, w and l of the ORDER as GIVEN), 0 at "
            + "least, 9999 at most (RAIN may bring it above that); in each RAIN (at most 6: from a MINUTE to "
            + "one, by 1 to 99 hundredths) in which PICK is (both ends, too) so many hundredths more, all "
            + "together (of PAY as it was).";

    private static final String NIGHT =
            "A NIGHT by a TEXT: as if no ORDER was GIVEN, each RIDER was where it came, free from "
            + "the MINUTE at which it came on, RATING 25 (all along) and h as of the NIGHT: ORDERS that aren't "
            + "called off, by MINUTES at which they were placed, of like ones by numbers, are GIVEN at once, each "
            + "to that RIDER that had come by then (free or not; refusals count nothing; its TRIP begins when it "
            + "is free, or at that MINUTE) with whom there is a TRIP and for whom the TEXT gives most (w 0); of "
            + "several the least number.";

    public static void main(String[] args) throws Exception {
        run(BoundsTermsTextsTest.class);
    }

    /** One RIDER and one ORDER at 0. */
    private static Run one() {
        Run r = new Run();
        r.call("kitchen", 0, 1);
        r.call("rider", 0, 0);
        r.call("order", 0, 0, 10, 0);
        return r;
    }

    private static void gives(int want, String text) {
        Run r = one();
        Due.is("text of \"" + text + "\"", 0, r.text(text));
        Due.is("what \"" + text + "\" gives", want, r.call("says", 0, 0, 0));
    }

    private static void fault(int place, String text) {
        Run r = one();
        Due.is("text of \"" + text + "\"", -1 - place, r.text(text));
        r.due(0, "count", 6).due(0, "count", 5).due(0, "status", -1);
    }

    // ---- how TEXTS are read

    @Sentence(of = 0, says = "TEXTS 0, 1, .. (at most 8) are read from THE TAPE (bytes, at most 80).")
    static void textsAndTape() {
        Run r = one();
        String most = "10" + "+1".repeat(39);
        Due.is("a TEXT of all 80 bytes", 0, r.feed(most).due(80, "count", 6).call("text"));
        r.due(49, "says", 0, 0, 0);
        for (int t = 1; t < 8; t++) {
            Due.is("TEXT " + t, t, r.text("" + t));
        }
        r.due(7, "says", 7, 0, 0).feed("7").refuses(FULL, "text").due(8, "count", 5);
        r.feed("+1".repeat(39)).due(79, "count", 6).refuses(FULL, "feed", '1' << 8 | '1', 2);
        r.due(80, "feed", '1', 1).refuses(FULL, "feed", '1', 1).due(80, "count", 6);
    }

    @Sentence(of = 0, says = "TOKENS, each as long as can be: NAMES (one letter of d w h r l c n), NUMBERS "
            + "(digits, 9999 at most), SIGNS + - * / ( ) < =; blanks may stand between.")
    static void tokens() {
        for (int b = 0; b < 256; b++) {
            char c = (char) b;
            boolean whole = "dwhrlcn0123456789".indexOf(c) >= 0;
            boolean opens = " -(".indexOf(c) >= 0;
            Run first = new Run();
            Due.is("byte " + b + " alone", whole ? 0 : opens ? -2 : -1, first.text("" + c));
            boolean goesOn = "0123456789 ".indexOf(c) >= 0;
            boolean joins = "+-*/<=".indexOf(c) >= 0;
            Run second = new Run();
            Due.is("byte " + b + " behind 1", goesOn ? 0 : joins ? -3 : -2, second.text("1" + c));
        }
        gives(12, "12");
        fault(2, "1 2");
        fault(1, "dd");
        fault(1, "1d");
        gives(9999, "9999");
        fault(0, "10000");
        gives(9999, "0009999");
        gives(3, "  1   +  2  ");
        gives(-6, " - ( 1 + 2 ) * 2 ");
        gives(1, " 1 < 2 ");
        fault(80, " ".repeat(80));
    }

    @Sentence(of = 0, says = "TEXT: SUM, perhaps < or = and a SUM (1 if so, else 0).")
    static void wholeTexts() {
        gives(5, "5");
        gives(1, "1<2");
        gives(0, "2<2");
        gives(0, "3<2");
        gives(0, "1=2");
        gives(1, "2=2");
        gives(1, "1-3<1-2");
        gives(1, "1+2=2+1");
        fault(3, "1<2<3");
        fault(3, "1=2=3");
        fault(3, "1<2=3");
        fault(2, "1<=2");
        fault(0, "<1");
        fault(2, "1=");
    }

    @Sentence(of = 0, says = "SUM: TERM { + TERM, - TERM }.")
    static void sums() {
        gives(7, "7");
        gives(-4, "1-2-3");
        gives(2, "1-2+3");
        gives(7, "1+2*3");
        gives(4, "1--3");
        fault(0, "+1");
        fault(2, "1++1");
        fault(2, "1+");
        fault(2, "1-");
    }

    @Sentence(of = 0, says = "TERM: ONE { * ONE, / ONE }.")
    static void terms() {
        gives(7, "100/7/2");
        gives(6, "7/2*2");
        gives(-6, "2*-3");
        gives(6, "-2*-3");
        fault(0, "*1");
        fault(2, "1**1");
        fault(2, "1*/1");
        fault(2, "1/");
    }

    @Sentence(of = 0, says = "ONE: NUMBER, NAME, - ONE, ( TEXT ).")
    static void ones() {
        gives(0, "0");
        gives(25, "r");
        gives(-25, "-r");
        gives(25, "--r");
        gives(25, "(r)");
        gives(2, "(1<2)+(3=3)");
        gives(-1, "-(1<2)");
        // - binds its ONE alone
        gives(-5, "-2-3");
        gives(1, "-(2)+3");
        fault(1, "()");
        fault(2, "(1");
        fault(1, "-");
        fault(1, "-+1");
        fault(1, "1(2)");
        fault(0, ")");
    }

    @Sentence(of = 0, says = "/ by 0 gives 0.")
    static void byNothing() {
        gives(0, "5/0");
        gives(0, "-5/0");
        gives(0, "0/0");
        gives(3, "3+5/(2-2)*9");
        gives(0, "9/(1<1)");
        gives(0, "9/d");
    }

    @Sentence(of = 0, says = FAULT)
    static void faults() {
        fault(0, "x");
        fault(0, "D");
        fault(2, "d+e");
        fault(0, "10000");
        fault(2, "1+99999999999999999999");
        fault(2, "(d;)");
        fault(4, "  d ?");
        fault(1, "d" + (char) 255);
        // the first of several
        fault(2, "d d 10000 x");
        // too early
        fault(0, "");
        fault(3, "   ");
        fault(2, "d+");
        fault(4, "d+  ");
        fault(79, "1+".repeat(39) + "(");
    }

    @Sentence(of = 0, says = FAULT)
    static void faultsOfDepth() {
        gives(7, "((((((7))))))");
        fault(6, "(((((((7)))))))");
        gives(7, "------7");
        fault(6, "-------7");
        gives(-7, "-(-(-(7)))");
        fault(6, "-(-(-(-7)))");
        fault(6, "-(-(-((7))))");
        fault(6, "((((((-7))))))");
        fault(6, "------(7)");
        // those that are closed count no more, of one ONE and of several
        gives(14, "((((((7))))))+((((((7))))))");
        gives(49, "------7*------7");
        gives(14, "------7- -----7");
        fault(14, "------7*-------7");
        gives(12, "(((((7--5-0)))))");
        fault(6, "(((((--7)))))");
        // - between two is open nowhere
        gives(1, "((((((7-6))))))");
        gives(1, "((((((9-1-7))))))");
        // a SIGN that could not stand there anyway
        fault(7, "((((((7(");
        fault(15, "    (  (( (((  (");
    }

    // ---- NAMES, offers, pay

    /** KITCHEN 0 at 1 (10 from 0, 20 from 2), KITCHEN 1 at 9, to which no ROAD leads. */
    private static Run named() {
        Run r = new Run();
        r.call("road", 0, 1, 10);
        r.call("road", 1, 2, 20);
        r.call("kitchen", 1, 15);
        r.call("kitchen", 9, 15);
        r.call("rider", 0, 0);
        r.call("rider", 2, 1);
        r.call("order", 0, 2, 30, 0);
        for (char name : "dwhrlcn".toCharArray()) {
            r.text("" + name);
        }
        return r;
    }

    private static void says(Run r, int rider, int order, int... due) {
        for (int t = 0; t < 7; t++) {
            r.due(due[t], "says", t, rider, order);
        }
    }

    @Sentence(of = 0, says = "NAMES of a RIDER and an ORDER: d MINUTES it GOES to the KITCHEN from where it is, "
            + "w how long the ORDER is placed (NOW, or PICK if it is GIVEN, less the MINUTE at which it was "
            + "placed), h how many ORDERS the RIDER was GIVEN, r RATING of the RIDER, l LATE of that TRIP alone "
            + "(of the ORDER, if it is GIVEN; else whatever its state is), c MINUTES that it GOES from the "
            + "KITCHEN to the CROSSING, n the number of the RIDER.")
    static void names() {
        // to the KITCHEN, not from it; from it, not to it
        Run hill = named();
        hill.call("crossing", 1, 0, 4);
        says(hill, 0, 0, 14, 0, 0, 25, 5, 20, 0);
        Run r = named();
        // d, w, h, r, l, c, n; READY at 15: dropped at 35 by the RIDER, by the CAR at 28
        says(r, 0, 0, 10, 0, 0, 25, 5, 20, 0);
        says(r, 1, 0, 3, 0, 0, 25, 0, 13, 1);
        r.go(6);
        says(r, 0, 0, 10, 6, 0, 25, 6, 20, 0);
        r.call("order", 0, 0, 10, 0);
        // READY at 21, dropped at 31, PROMISED by 16
        says(r, 0, 1, 10, 0, 0, 25, 15, 10, 0);
        r.call("callOff", 1);
        r.go(1);
        // called off: as if it waited
        says(r, 0, 1, 10, 1, 0, 25, 15, 10, 0);
        r.due(37, "give", 0, 0);
        r.go(100);
        // GIVEN: picked at 17, LATE 7, for whomever it is asked; the RIDER is at 2
        says(r, 0, 0, 20, 17, 1, 49, 7, 20, 0);
        says(r, 1, 0, 3, 17, 0, 25, 7, 13, 1);
        // placed at 107: READY at 122, there at 130, dropped at 150, PROMISED by 137
        r.call("order", 0, 2, 30, 0);
        // it waits, and the RIDER is at 2: there at 127, dropped at 147
        says(r, 0, 2, 20, 0, 1, 49, 10, 20, 0);
        r.go(3).due(150, "give", 0, 2).go(9);
        says(r, 1, 2, 3, 23, 0, 25, 13, 13, 1);
    }

    @Sentence(of = 0, says = "(0 for what can't be, as there is no WAY, no TRIP.)")
    static void namesOfNothing() {
        Run r = named();
        r.call("order", 1, 0, 10, 0);
        r.call("order", 0, 9, 10, 0);
        r.call("order", 1, 9, 10, 0);
        // no WAY to the KITCHEN nor from it; none from it; none to it, but a CAR's 3 within 9
        says(r, 0, 1, 0, 0, 0, 25, 0, 0, 0);
        says(r, 0, 2, 10, 0, 0, 25, 0, 0, 0);
        says(r, 1, 3, 0, 0, 0, 25, 0, 3, 1);
        r.go(1400);
        // a WAY, but no TRIP that ends by 1439: with RIDER 0 it ends at 1430, with 2 at 1440
        r.call("rider", 0, 2);
        says(r, 0, 0, 10, 1400, 0, 25, 1400, 20, 0);
        says(r, 2, 0, 20, 1400, 0, 25, 0, 20, 2);
    }

    @Sentence(of = 0, says = "THE RULE and THE PAY are TEXTS (none at first).")
    static void noneAtFirst() {
        Run r = one();
        r.text("5");
        r.refuses(STATE, "offered", 0).refuses(STATE, "offerAll");
        r.twin().due(1, "give", 0, 0).due(0, "orderOf", 0, 9).due(-1, "force", 1, 0).due(-1, "force", 0, 0);
        r.due(-1, "force", 0, 0).due(0, "offered", 0);
        r.due(-1, "force", 1, 0).due(1, "give", 0, 0).due(5, "orderOf", 0, 9);
    }

    @Sentence(of = 0, says = "OFFERED is a waiting ORDER to that RIDER of those free at NOW who haven't refused "
            + "it, and with whom there is a TRIP, for whom THE RULE gives most; of several the least number.")
    static void offered() {
        Run r = new Run();
        r.call("road", 0, 1, 10);
        r.call("kitchen", 0, 1);
        r.call("order", 0, 0, 60, 0);
        r.call("order", 0, 0, 60, 0);
        r.call("rider", 0, 1);
        r.call("rider", 0, 0);
        r.call("rider", 0, 0);
        r.call("force", 0, r.text("-d"));
        // the most is below 0, too; of two alike the least number
        r.due(1, "offered", 0);
        r.call("force", 0, r.text("n"));
        r.due(2, "offered", 0);
        r.call("force", 0, r.text("0"));
        r.due(0, "offered", 0);
        r.call("force", 0, r.text("n-9999*9999*21-4790*9999-8417"));
        r.due(2, "offered", 0);
        r.call("refuse", 2, 0);
        r.due(1, "offered", 0).due(2, "offered", 1);
        // busy up to 1: not free at 0, free at 1
        r.due(1, "give", 1, 1).due(0, "offered", 0);
        r.go(1).due(1, "offered", 0);
        r.call("refuse", 1, 0);
        r.call("refuse", 0, 0);
        r.refuses(NONE, "offered", 0);
        // each as it GOES, from where it is then: a WALKER who was GIVEN one, then a BIKE
        Run kinds = new Run();
        kinds.call("road", 0, 1, 10);
        kinds.call("kitchen", 0, 1);
        kinds.call("rider", 3, 1);
        kinds.call("order", 0, 0, 10, 0);
        kinds.call("order", 0, 1, 10, 0);
        kinds.call("force", 0, kinds.text("l"));
        kinds.due(20, "give", 0, 0).go(20).call("rider", 1, 1);
        // by 40 and by 36
        kinds.due(0, "offered", 1).call("force", 0, kinds.text("-l"));
        kinds.due(1, "offered", 1).call("force", 0, kinds.text("-(l=30)"));
        kinds.due(1, "offered", 1);
        kinds.twin().due(1, "offerAll").due(36, "orderOf", 1, 7).due(36, "riderOf", 1, 2);
        kinds.call("refuse", 1, 1);
        kinds.due(0, "offered", 1).due(1, "offerAll").due(40, "orderOf", 1, 7).due(1, "riderOf", 0, 1);
        // THE RULE knows how long it is placed and how LATE it would be
        Run known = r.twin().go(60);
        known.call("order", 0, 0, 15, 0);
        known.go(7).call("force", 0, known.text("(w=7)*(l=2)*(d=10)"));
        known.due(0, "offered", 2).call("force", 0, known.text("(w=7)*(l=0)*n*(n<2)"));
        known.due(1, "offered", 2);
        // by the end of the day: from 1 there is no TRIP any more, from 0 there is
        Run late = r.twin().go(1429);
        late.call("order", 0, 0, 10, 0);
        late.call("force", 0, late.text("-n"));
        late.refuses(NONE, "trip", 0, 2, 0).due(1, "offered", 2);
    }

    @Sentence(of = 0, says = PAY)
    static void payBounds() {
        String[] texts = {"0", "0-1", "1", "9999", "9999+1", "9999*9999*21+4790*9999+8417"};
        int[] due = {0, 0, 1, 9999, 9999, 0};
        for (int i = 0; i < texts.length; i++) {
            Run r = one();
            r.call("force", 1, r.text(texts[i]));
            r.call("give", 0, 0);
            r.due(due[i], "orderOf", 0, 9).due(due[i], "riderOf", 0, 5);
            r.call("force", 1, -1);
            r.due(due[i], "orderOf", 0, 9);
        }
        Run without = one();
        without.call("give", 0, 0);
        without.due(0, "orderOf", 0, 9);
        without.call("rain", 0, 1439, 99);
        without.call("force", 1, without.text("100"));
        without.due(0, "orderOf", 0, 9);
    }

    @Sentence(of = 0, says = PAY)
    static void payInRain() {
        // picked at 10
        Run r = new Run();
        r.call("kitchen", 0, 10);
        r.call("rider", 0, 0);
        r.call("order", 0, 0, 10, 0);
        r.call("force", 1, r.text("150"));
        r.call("give", 0, 0);
        r.twin().due(1, "rain", 0, 9, 99).due(2, "rain", 11, 1439, 99).due(150, "orderOf", 0, 9);
        r.twin().due(1, "rain", 0, 10, 1).due(151, "orderOf", 0, 9);
        r.twin().due(1, "rain", 10, 1439, 99).due(298, "orderOf", 0, 9);
        r.twin().due(1, "rain", 10, 10, 50).due(225, "orderOf", 0, 9);
        // READY at 10, picked at 15, dropped at 25: it is the MINUTE of PICK
        Run away = new Run();
        away.call("road", 0, 1, 10);
        away.call("kitchen", 0, 10);
        away.call("rider", 0, 1);
        away.call("order", 0, 1, 10, 0);
        away.call("force", 1, away.text("100"));
        away.go(5).due(25, "give", 0, 0);
        away.due(1, "rain", 0, 14, 99).due(2, "rain", 16, 1439, 99).due(100, "orderOf", 0, 9);
        away.due(3, "rain", 15, 15, 7).due(107, "orderOf", 0, 9);
        // 1 hundredth of 150 is 1, two of these together 3, three 4
        r.call("rain", 0, 1439, 1);
        r.due(151, "orderOf", 0, 9).call("rain", 0, 1439, 1);
        r.due(153, "orderOf", 0, 9).call("rain", 0, 1439, 1);
        r.due(154, "orderOf", 0, 9);
        // six of 99 on top of the most
        Run most = one();
        most.call("force", 1, most.text("9999"));
        most.call("give", 0, 0);
        for (int i = 1; i <= 6; i++) {
            most.due(i, "rain", 1, 1, 99);
        }
        most.refuses(FULL, "rain", 1, 1, 99);
        most.due(9999 + 59394, "orderOf", 0, 9).due(9999 + 59394, "zone", 0, 3);
    }

    @Sentence(of = 0, says = PAY)
    static void payByNames() {
        String[] names = {"d", "w", "h", "r", "l", "c", "n+7"};
        // alone: picked at 15, dropped at 35; then from 2 on picked at 55, dropped at 75
        int[] first = {10, 15, 0, 25, 5, 20, 7};
        int[] second = {20, 55, 1, 49, 45, 20, 7};
        // JOINED: the one to 0 is picked at 15 and dropped at 25, the one to 2 at 35 and 55
        int[] joinedFirst = {10, 35, 0, 25, 25, 20, 7};
        int[] joinedOther = {10, 15, 0, 25, 4, 10, 7};
        for (int i = 0; i < 7; i++) {
            Run r = new Run();
            r.call("road", 0, 1, 10);
            r.call("road", 1, 2, 20);
            r.call("kitchen", 1, 15);
            r.call("rider", 0, 0);
            r.call("order", 0, 2, 30, 0);
            r.call("order", 0, 2, 30, 0);
            r.call("order", 0, 0, 21, 0);
            r.call("force", 1, r.text(names[i]));
            r.go(3);
            Run joined = r.twin();
            r.due(35, "give", 0, 0).due(first[i], "orderOf", 0, 9);
            r.due(75, "give", 0, 1).due(second[i], "orderOf", 1, 9).due(first[i], "orderOf", 0, 9);
            joined.due(55, "giveTwo", 0, 0, 2);
            joined.due(joinedFirst[i], "orderOf", 0, 9).due(joinedOther[i], "orderOf", 2, 9);
        }
        // placed at 100, picked at 101
        Run later = one().go(100);
        later.call("order", 0, 0, 10, 0);
        later.call("force", 1, later.text("w"));
        later.due(101, "give", 0, 1).due(1, "orderOf", 1, 9);
    }

    // ---- the law

    @Sentence(of = 0, says = "LAW: so much for 60 MINUTES ENGAGED (0 to 999; 0 at first).")
    static void law() {
        Run r = new Run();
        r.call("kitchen", 0, 60);
        r.call("rider", 0, 0);
        r.call("order", 0, 0, 10, 0);
        r.call("give", 0, 0);
        r.due(60, "least", 0, 0).due(0, "least", 0, 1);
        r.due(0, "law", 999).due(999, "least", 0, 1);
        r.refuses(BEYOND, "law", 1000).refuses(BEYOND, "law", -1);
        r.due(999, "law", 1).due(1, "least", 0, 1).due(1, "law", 0).due(0, "least", 0, 1);
    }

    /** One TRIP from 10 to 21, paid by a TEXT. */
    private static Run engaged(String pay) {
        Run r = new Run().go(10);
        r.call("road", 0, 1, 10);
        r.call("kitchen", 0, 1);
        r.call("rider", 0, 0);
        r.call("order", 0, 1, 60, 0);
        r.call("force", 1, r.text(pay));
        r.call("give", 0, 0);
        return r;
    }

    @Sentence(of = 0, says = "TOP of a RIDER: LAW times MINUTES ENGAGED that count, by 60, up, less all PAY, "
            + "0 at least.")
    static void top() {
        Run r = engaged("0");
        // 11 MINUTES
        int[][] due = {{0, 0}, {1, 1}, {5, 1}, {6, 2}, {11, 3}, {54, 10}, {55, 11}, {60, 11}, {61, 12}, {999, 184}};
        for (int[] pair : due) {
            r.call("law", pair[0]);
            r.due(pair[1], "least", 0, 1);
        }
        int[] left = {1, 0, 0};
        for (int pay = 10; pay <= 12; pay++) {
            Run paid = engaged("" + pay);
            paid.call("law", 60);
            paid.due(left[pay - 10], "least", 0, 1);
        }
        // PAY of all, with its RAIN: 4 and 4, half more each
        Run two = engaged("4");
        two.call("order", 0, 1, 60, 0);
        two.due(41, "give", 0, 1);
        two.call("law", 60);
        two.due(31, "least", 0, 0).due(23, "least", 0, 1);
        two.call("rain", 0, 1439, 50);
        two.due(19, "least", 0, 1);
        // none engaged
        two.call("rider", 0, 0);
        two.due(0, "least", 1, 0).due(0, "least", 1, 1);
    }

    @Sentence(of = 0, says = "OTHER APP of a RIDER: at most 4 times from a MINUTE to one: MINUTES ENGAGED that "
            + "are within one of these (from its begin to ahead of its end) count half (of all such together, "
            + "cut: one alone counts 0).")
    static void otherApps() {
        Run r = engaged("0");
        // ENGAGED are 10 to 20
        int[][] due = {{0, 10, 11}, {0, 11, 10}, {9, 12, 10}, {9, 13, 9}, {20, 30, 10}, {21, 30, 11},
            {10, 21, 5}, {0, 1439, 5}, {10, 20, 6}};
        for (int[] app : due) {
            r.twin().due(1, "app", 0, app[0], app[1]).due(app[2], "least", 0, 0).due(11, "riderOf", 0, 4);
        }
        // one MINUTE in two of them counts once; two apart are halved together
        r.call("app", 0, 10, 11);
        r.call("app", 0, 9, 11);
        r.due(10, "least", 0, 0);
        r.call("app", 0, 20, 21);
        r.due(10, "least", 0, 0);
        r.due(4, "app", 0, 0, 1).refuses(FULL, "app", 0, 0, 1);
        // of two TRIPS together: 20 and the first of the next
        Run two = engaged("0");
        two.call("order", 0, 1, 60, 0);
        two.call("give", 0, 1);
        two.call("app", 0, 20, 22);
        two.due(31 - 2 + 1, "least", 0, 0);
        // of one whose TRIP came behind another's
        Run second = engaged("0");
        second.call("rider", 0, 0);
        second.call("order", 0, 1, 60, 0);
        second.call("give", 1, 1);
        second.call("app", 1, 0, 1439);
        second.due(5, "least", 1, 0).due(11, "least", 0, 0);
        // of another RIDER: nothing
        two.call("rider", 0, 0);
        two.call("app", 1, 0, 1439);
        two.due(30, "least", 0, 0).due(0, "least", 1, 0);
    }

    // ---- ratings

    /** An ORDER with a DELAY, PROMISED in so many, whose RIDER waits so many MINUTES ahead of its TRIP. */
    private static Run rated(int delay, int promised, int waits) {
        Run r = new Run();
        r.call("kitchen", 0, 1);
        r.call("rider", 0, 0);
        r.call("order", 0, 0, promised, delay);
        r.go(waits);
        r.call("give", 0, 0);
        return r;
    }

    @Sentence(of = 0, says = "RATING of a GIVEN ORDER: 50 less LACKS, 0 at least.")
    static void ratings() {
        rated(0, 10, 0).due(50, "orderOf", 0, 10);
        // picked at 1 + 4 n: the RIDER lacks n, and up to 120 it is in time
        rated(0, 120, 4).due(50, "orderOf", 0, 10);
        rated(0, 120, 5).due(49, "orderOf", 0, 10);
        // 113, LATE 0: 28 lack
        rated(0, 120, 113).due(22, "orderOf", 0, 10);
        // 152: LATE 32: 6 and 37 lack; 165: LATE 45: 9 and 41; 166: 46: 9 and 41; 170: 50: 10 and 42
        rated(0, 120, 152).due(7, "orderOf", 0, 10);
        rated(0, 120, 164).due(2, "orderOf", 0, 10);
        rated(0, 120, 165).due(0, "orderOf", 0, 10);
        rated(0, 120, 170).due(0, "orderOf", 0, 10);
        rated(60, 10, 600).due(0, "orderOf", 0, 10);
    }

    @Sentence(of = 0, says = "LACKS by COOK: DELAY by 5; by WAY: LATE by 5, less what COOK lacks (0 at least); "
            + "by RIDER: the MINUTES from READY to PICK by 4.")
    static void lacks() {
        int[][] byCook = {{0, 0}, {4, 0}, {5, 1}, {9, 1}, {10, 2}, {59, 11}, {60, 12}};
        for (int[] pair : byCook) {
            rated(pair[0], 120, 0).due(pair[1], "lacks", 0, 0);
        }
        // picked and dropped at 14, 15, 20: LATE 4, 5, 10
        rated(0, 10, 14).due(0, "lacks", 0, 1);
        rated(0, 10, 15).due(1, "lacks", 0, 1);
        rated(0, 10, 20).due(2, "lacks", 0, 1);
        rated(5, 10, 20).due(1, "lacks", 0, 1);
        rated(10, 10, 20).due(0, "lacks", 0, 1);
        // the cook lacks more than there is of LATE: DELAY 15 and LATE 10
        rated(15, 10, 20).due(3, "lacks", 0, 0).due(0, "lacks", 0, 1);
        rated(60, 120, 0).due(12, "lacks", 0, 0).due(0, "lacks", 0, 1).due(0, "lacks", 0, 2);
        // READY at 1
        rated(0, 120, 0).due(0, "lacks", 0, 2);
        rated(0, 120, 4).due(0, "lacks", 0, 2);
        rated(0, 120, 5).due(1, "lacks", 0, 2);
        rated(0, 120, 8).due(1, "lacks", 0, 2);
        rated(0, 120, 9).due(2, "lacks", 0, 2);
    }

    @Sentence(of = 0, says = "RATING of a RIDER: the mean of its ORDERS' RATINGS; 25 without any.")
    static void ratingsOfRiders() {
        Run r = new Run();
        r.call("kitchen", 0, 1);
        r.call("rider", 0, 0);
        r.call("rider", 0, 0);
        r.due(25, "riderOf", 0, 6);
        for (int o = 0; o < 4; o++) {
            r.call("order", 0, 0, 120, 0);
        }
        r.call("give", 0, 0);
        r.due(50, "riderOf", 0, 6).due(25, "riderOf", 1, 6);
        r.go(5).call("give", 0, 1);
        // 50 and 49: cut
        r.due(49, "riderOf", 0, 6);
        r.call("give", 1, 2);
        r.due(49, "riderOf", 1, 6).due(49, "riderOf", 0, 6);
        // 50, 49 and 0
        r.go(600).call("give", 0, 3);
        r.due(33, "riderOf", 0, 6);
    }

    @Sentence(of = 0, says = "A BAN of a RIDER at a limit is proved, if it was GIVEN so many ORDERS (1 to 9) at "
            + "least, and the mean of 50 less what RIDER lacks (0 at least) is below the limit.")
    static void bans() {
        // the cook's DELAY and LATE prove nothing
        rated(60, 10, 0).due(0, "ban", 0, 50, 1);
        rated(0, 120, 4).due(0, "ban", 0, 50, 1);
        rated(0, 120, 5).due(1, "ban", 0, 50, 1).due(0, "ban", 0, 49, 1).due(0, "ban", 0, 50, 2);
        // 50 lack at 201, more at 205: 0 at least
        rated(0, 120, 200).due(1, "ban", 0, 2, 1).due(0, "ban", 0, 1, 1);
        rated(0, 120, 201).due(1, "ban", 0, 1, 1).due(0, "ban", 0, 0, 1);
        rated(0, 120, 600).due(1, "ban", 0, 1, 1).due(0, "ban", 0, 0, 1);
        Run r = new Run();
        r.call("kitchen", 0, 1);
        r.call("rider", 0, 0);
        for (int o = 0; o < 9; o++) {
            r.call("order", 0, 0, 120, 0);
        }
        r.due(0, "ban", 0, 50, 1);
        r.call("give", 0, 0);
        // one of 50, one of 0: 25
        r.go(600).call("give", 0, 1);
        r.due(1, "ban", 0, 26, 2).due(0, "ban", 0, 25, 2).due(0, "ban", 0, 26, 3);
        // one of 50 and two of 0: 16 and two thirds
        r.call("give", 0, 2);
        r.due(1, "ban", 0, 17, 3).due(0, "ban", 0, 16, 3);
        for (int o = 3; o < 8; o++) {
            r.call("give", 0, o);
        }
        r.due(1, "ban", 0, 50, 8).due(0, "ban", 0, 50, 9);
        r.call("give", 0, 8);
        r.due(1, "ban", 0, 50, 9);
    }

    @Sentence(of = 0, says = "SIGHTINGS of a RIDER (at most 20 in all): at a CROSSING, in a MINUTE.")
    static void sightings() {
        Run r = new Run();
        r.call("rider", 0, 0);
        r.call("rider", 0, 0);
        for (int i = 1; i <= 20; i++) {
            r.due(i, "seen", i % 2, i % 16, 72 * i - 1);
        }
        r.refuses(FULL, "seen", 0, 0, 0).refuses(FULL, "seen", 1, 15, 1439);
        // no ROADS: any two of a RIDER's ten are DOUBLE, but 2 and 18, 4 and 20 at one CROSSING
        r.due(45 - 2, "doubles", 0, 0);
    }

    @Sentence(of = 0, says = "DOUBLE are two of one RIDER, if WAY from the one in the lesser MINUTE (of like ones "
            + "the one told first) to the other is more than MINUTES between them, or there is none.")
    static void doubles() {
        Run r = new Run();
        r.call("rider", 2, 0);
        r.call("rider", 0, 0);
        r.call("road", 0, 1, 10);
        r.call("crossing", 1, 0, 5);
        // up in 15, down in 10, whichever was told first
        int[][] due = {{0, 50, 1, 65, 0}, {0, 50, 1, 64, 1}, {1, 65, 0, 50, 0}, {1, 64, 0, 50, 1},
            {1, 50, 0, 60, 0}, {1, 50, 0, 59, 1}, {0, 60, 1, 50, 0}, {0, 59, 1, 50, 1},
            {0, 50, 1, 50, 1}, {1, 50, 0, 50, 1}, {1, 50, 1, 50, 0}, {0, 0, 1, 1439, 0},
            {0, 0, 9, 1439, 1}, {9, 1439, 0, 0, 1}, {9, 7, 9, 7, 0}, {9, 7, 8, 7, 1}};
        for (int[] two : due) {
            Run twin = r.twin();
            twin.call("seen", 0, two[0], two[1]);
            twin.call("seen", 0, two[2], two[3]);
            twin.due(two[4], "doubles", 0, 0).due(0, "doubles", 1, 0);
        }
        // of two RIDERS
        r.call("seen", 0, 0, 50);
        r.call("seen", 1, 9, 50);
        r.due(0, "doubles", 0, 0).due(0, "doubles", 1, 0);
    }

    // ---- nights

    @Sentence(of = 0, says = NIGHT)
    static void nightAsIf() {
        Run r = new Run();
        r.call("road", 0, 1, 10);
        r.call("kitchen", 0, 1);
        r.call("rider", 0, 0);
        r.call("rider", 0, 0);
        r.call("order", 0, 1, 120, 0);
        r.call("order", 0, 1, 120, 0);
        r.call("order", 0, 1, 120, 0);
        int least = r.text("-n");
        int fair = r.text("-h");
        int rest = r.text("(r=25)*(w=0)*n");
        r.call("callOff", 1);
        r.call("refuse", 0, 2);
        // GIVEN to another one, from elsewhere, with RATINGS: nothing of that counts
        r.go(50).call("give", 1, 0);
        r.go(50);
        for (int o = 0; o < 3; o += 2) {
            r.due(0, "whom", least, o).due(o / 2, "whom", fair, o).due(1, "whom", rest, o);
        }
        r.refuses(NONE, "whom", least, 1);
        // the first at 11; the second, free from 11 at 1, there at 21, dropped at 31
        r.due(2, "night", least, 0).due(31, "night", least, 4).due(11, "night", fair, 4);
        // and what stands is as it was
        r.due(1, "orderOf", 0, 5).due(0, "orderOf", 2, 4).due(0, "riderOf", 0, 1).due(1, "riderOf", 1, 1);
        r.due(1, "riderOf", 0, 7).due(0, "riderOf", 0, 3).due(1, "count", 3).due(100, "count", 0);
    }

    @Sentence(of = 0, says = NIGHT)
    static void nightByMinutes() {
        Run r = new Run().go(4);
        r.call("road", 0, 1, 10);
        r.call("kitchen", 0, 1);
        r.call("order", 0, 0, 10, 0);
        r.go(1).call("order", 0, 1, 10, 0);
        r.call("rider", 0, 1);
        int last = r.text("n");
        int alike = r.text("7");
        int below = r.text("-99-n");
        // had not come by 4, came at 5
        r.refuses(NONE, "whom", last, 0).due(0, "whom", last, 1).due(1, "night", last, 0);
        // begun at 5: there at 15, dropped at 25
        r.due(25, "night", last, 4);
        r.call("rider", 0, 0);
        r.due(1, "whom", last, 1).due(0, "whom", alike, 1).due(0, "whom", below, 1);
        // RIDER 1 is free from 16, at 1, and still gets the next at 10
        r.go(5).call("order", 0, 0, 10, 0);
        r.due(1, "whom", last, 2).due(26, "night", last, 4);
        // free from 26, at 0, but placed at 30: at that MINUTE, from 0
        r.go(20).call("order", 0, 1, 10, 0);
        r.due(41, "night", last, 4).due(3, "night", last, 0);
        // free from 41, at 1, but placed at 50: there at 60, dropped at 70
        Run away = r.twin().go(20);
        away.call("order", 0, 1, 10, 0);
        away.due(70, "night", last, 4).due(4, "night", last, 0);
        r.call("rider", 0, 0);
        r.due(2, "whom", last, 3).due(1, "whom", last, 2);
    }

    @Sentence(of = 0, says = NIGHT)
    static void nightWithoutTrips() {
        Run r = new Run().go(1428);
        r.call("road", 0, 1, 10);
        r.call("kitchen", 0, 1);
        r.call("rider", 0, 0);
        r.call("rider", 0, 0);
        r.call("rider", 0, 9);
        int least = r.text("-n");
        int last = r.text("n");
        r.call("order", 0, 1, 10, 0);
        r.call("order", 0, 1, 10, 0);
        r.call("order", 0, 1, 10, 0);
        r.call("order", 0, 9, 10, 0);
        // dropped at 1439 by either; then both are at 1, and 2 has no WAY
        r.due(0, "whom", least, 0).due(1, "whom", least, 1).refuses(NONE, "whom", least, 2);
        r.due(1, "whom", last, 0).due(0, "whom", last, 1).refuses(NONE, "whom", last, 2);
        r.refuses(NONE, "whom", least, 3).due(2, "night", least, 0).due(1439, "night", least, 4);
        r.go(1).call("order", 0, 1, 10, 0);
        r.refuses(NONE, "whom", least, 4);
        // with the d, l and c of the TRIP: 0, 1 and 10 of the first
        Run named = new Run();
        named.call("road", 0, 1, 10);
        named.call("kitchen", 0, 1);
        named.call("rider", 0, 1);
        named.call("rider", 0, 0);
        named.call("order", 0, 1, 10, 0);
        named.call("order", 0, 1, 10, 0);
        named.due(1, "whom", named.text("(d=0)*(l=1)*(c=10)"), 0);
        named.due(0, "whom", named.text("(d=10)*(l=10)*(c=10)"), 0);
        // each kind as it GOES, wherever it has come since: WAYS of 10 and 10 for all of these
        Run kinds = new Run();
        kinds.call("road", 0, 1, 10);
        kinds.call("kitchen", 0, 1);
        for (int kind = 0; kind < 7; kind++) {
            kinds.call("rider", kind, 1);
        }
        kinds.call("order", 0, 1, 10, 0);
        kinds.call("refuse", 0, 0);
        kinds.call("give", 1, 0);
        kinds.go(30);
        int[] goes = {10, 8, 8, 20, 7, 10, 22};
        for (int kind = 0; kind < 7; kind++) {
            int d = goes[kind];
            Run twin = kinds.twin();
            int text = twin.text("(n=" + kind + ")*(d=" + d + ")*(c=" + d + ")*(l=" + (2 * d - 10) + ")");
            twin.due(kind, "whom", text, 0).due(2 * d, "night", text, 4).due(2 * d - 10, "night", text, 1);
        }
        // the second: RIDER 1 is at 1 then, dropped at 31
        named.due(1, "whom", named.text("(d=0)*9+(d=10)*(l=21)*(h=1)*n"), 1);
    }

    // ---- spots, sheets

    @Sentence(of = 0, says = "SPOTS 0 to 9 hold a RIDER or nothing (at first).")
    static void spots() {
        Run r = new Run();
        r.call("rider", 0, 0);
        for (int spot = 0; spot <= 9; spot++) {
            r.refuses(MISSING, "as", spot, 0).due(1, "hold", spot, 0).due(0, "as", spot, 0);
            r.due(1, "hold", spot, -1).due(MISSING, "as", spot, 0);
        }
        r.refuses(BEYOND, "hold", 10, 0).refuses(BEYOND, "hold", -1, 0);
        r.refuses(BEYOND, "as", 10, 0).refuses(BEYOND, "as", -1, 0);
    }

    @Sentence(of = 0, says = "SHEETS 0 to 3: rows of at most 60 numbers of 8, 16 or 32 bits, or MISSING (at first).")
    static void sheets() {
        for (int bits = 8; bits <= 32; bits *= 2) {
            Run r = new Run();
            for (int s = 0; s <= 3; s++) {
                r.refuses(MISSING, "write", s, 0, 0).refuses(MISSING, "roads", s);
                r.due(60, "sheet", s, bits, 60).due(1, "write", s, 59, 1).refuses(BEYOND, "write", s, 60, 1);
                r.due(0, "sheet", s, bits, 0).refuses(BEYOND, "write", s, 0, 1).due(0, "roads", s);
                r.refuses(BEYOND, "sheet", s, bits, 61).due(0, "sheet", s, 0, 0).due(MISSING, "roads", s);
            }
            r.refuses(BEYOND, "sheet", 4, bits, 1).refuses(BEYOND, "sheet", -1, bits, 1);
        }
    }
}
