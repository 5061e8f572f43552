/** Promises 17 to 21. */
public final class TextsTest {
    public static void main(String[] args) {
        feed();
        wipe();
        faults();
        depths();
        full();
        values();
        names();
        namesOfGiven();
        force();
        Due.end();
    }

    private static void feed() {
        BagRiders x = new BagRiders();
        Due.is("feed n 0", Due.BEYOND, x.feed(0, 0));
        Due.is("feed n 5", Due.BEYOND, x.feed(0, 5));
        Due.is("feed n -1", Due.BEYOND, x.feed(0, -1));
        // the highest of the lowest n bytes first: "-12" of 'x', '-', '1', '2'
        Due.is("feed 3 of 4", 3, x.feed('x' << 24 | '-' << 16 | '1' << 8 | '2', 3));
        Due.is("text", 0, x.text());
        x.kitchen(0, 1);
        x.order(0, 0, 10, 0);
        x.rider(0, 0);
        Due.is("says", -12, x.says(0, 0, 0));
        Due.is("feed a high byte", 1, x.feed(0xffffffff, 1));
        Due.is("wipe", 1, x.wipe());
        for (int i = 1; i <= 19; i++) {
            Due.is("feed", 4 * i, x.feed(0x31313131, 4));
        }
        Due.is("feed", 78, x.feed(0x3131, 2));
        Due.is("feed too many", Due.FULL, x.feed(0x313131, 3));
        Due.is("feed n 5 when nearly full", Due.BEYOND, x.feed(0, 5));
        Due.is("count(6)", 78, x.count(6));
        Due.is("feed just enough", 80, x.feed(0x3131, 2));
        Due.is("feed one more", Due.FULL, x.feed(0x31, 1));
        Due.is("eighty digits", -1, x.text());
        Due.is("count(6)", 0, x.count(6));
    }

    private static void wipe() {
        BagRiders x = new BagRiders();
        Due.feed(x, "d+");
        Due.is("wipe", 2, x.wipe());
        Due.is("wipe again", 0, x.wipe());
        Due.is("text after wipe", 0, Due.text(x, "7"));
        Due.is("count(6)", 0, x.count(6));
    }

    private static void fault(String text, int place) {
        BagRiders x = new BagRiders();
        Due.is("text \"" + text + "\"", -1 - place, Due.text(x, text));
        Due.is("THE TAPE behind \"" + text + "\"", 0, x.count(6));
        Due.is("TEXTS behind \"" + text + "\"", 0, x.count(5));
        Due.is("findings behind \"" + text + "\"", 0, x.status(-1));
    }

    private static void faults() {
        fault("", 0);
        fault("   ", 3);
        fault("x", 0);
        fault("D", 0);
        fault("d e", 2);
        fault("d d", 2);
        fault("dd", 1);
        fault("12 3", 3);
        fault("1d", 1);
        fault("d1", 1);
        fault("10000", 0);
        fault("1+10000", 2);
        fault("1+99999999999999999999999", 2);
        fault("d+", 2);
        fault("d+ ", 3);
        fault("d*", 2);
        fault("+d", 0);
        fault("*d", 0);
        fault("d+*c", 2);
        fault("d++c", 2);
        fault("1<", 2);
        fault("<1", 0);
        fault("1<2<3", 3);
        fault("1=2=3", 3);
        fault("1<2=3", 3);
        fault("1<=2", 2);
        fault("(1<2<3)", 4);
        fault("(d", 2);
        fault("(d ", 3);
        fault("()", 1);
        fault(")", 0);
        fault("d)", 1);
        fault("(d))", 3);
        fault("(d(c))", 2);
        fault("d;", 1);
        fault("d\tc", 1);
        fault("d\n", 1);
        fault("\0", 0);
        fault("d" + (char) 255, 1);
        fault("d.5", 1);
        fault("1>2", 1);
        fault("d%2", 1);
        // the first that can't stand there, although a later one is worse
        fault("d d x", 2);
        fault("(1+2", 4);
        fault("-", 1);
        fault("--", 2);
    }

    private static void fine(String text) {
        BagRiders x = new BagRiders();
        Due.is("text \"" + text + "\"", 0, Due.text(x, text));
        Due.is("TEXTS behind \"" + text + "\"", 1, x.count(5));
        Due.is("THE TAPE behind \"" + text + "\"", 0, x.count(6));
    }

    private static void depths() {
        fine("((((((d))))))");
        fault("(((((((d)))))))", 6);
        fine("------1");
        fault("-------1", 6);
        fine("-(-(-(d)))");
        fault("-(-(-(-d)))", 6);
        fault("-(-(-((d))))", 6);
        fault("((((((-d))))))", 6);
        // those that are closed again count no more
        fine("((((((d))))))+((((((d))))))");
        fine("(((((-d-c*-w)))))");
        fine("------1------1");
        fault("------1*-------1", 14);
        fine("------1- ------1");
        fault("      (((((((", 12);
        // - between two is no - ahead of a ONE
        fine("((((((d-c-w-1))))))");
    }

    private static void full() {
        BagRiders x = new BagRiders();
        for (int t = 0; t < 8; t++) {
            Due.is("text", t, Due.text(x, "" + t));
        }
        Due.is("count(5)", 8, x.count(5));
        Due.is("text beyond all", Due.FULL, Due.text(x, "9"));
        Due.is("THE TAPE stays", 1, x.count(6));
        x.wipe();
        Due.is("full ahead of a fault", Due.FULL, Due.text(x, "?!"));
        Due.is("THE TAPE stays", 2, x.count(6));
    }

    private static void gives(String text, int want) {
        BagRiders x = new BagRiders();
        x.kitchen(0, 1);
        x.order(0, 0, 10, 0);
        x.rider(0, 0);
        Due.is("text \"" + text + "\"", 0, Due.text(x, text));
        Due.is("says \"" + text + "\"", want, x.says(0, 0, 0));
    }

    private static void values() {
        gives("0", 0);
        gives("9999", 9999);
        gives("00009999", 9999);
        gives(" 1 + 2 ", 3);
        gives("1-2-3", -4);
        gives("2+3*4", 14);
        gives("(2+3)*4", 20);
        gives("100/7/2", 7);
        gives("7/2*2", 6);
        gives("-7/2", -3);
        gives("7/-2", -3);
        gives("5/0", 0);
        gives("0/0", 0);
        gives("1+5/(2-2)*9", 1);
        gives("--5", 5);
        gives("3--5", 8);
        gives("-2*-3", 6);
        gives("1<2", 1);
        gives("2<1", 0);
        gives("2<2", 0);
        gives("2=2", 1);
        gives("2=3", 0);
        gives("1+1=2", 1);
        gives("1+(1=2)", 1);
        gives("(1<2)+(3<4)*10", 11);
        gives("-(1<2)", -1);
        gives("(1<2)=(3<4)", 1);
        gives("-1<0", 1);
        // ints wrap
        gives("9999*9999*9999", 9999 * 9999 * 9999);
        gives("9999*9999*43", (int) (9999L * 9999L * 43L));
        gives("0-9999*9999*21-4790*9999-8417", Integer.MIN_VALUE);
        gives("(0-9999*9999*21-4790*9999-8417)/-1", Integer.MIN_VALUE);
        gives("0-9999*9999*21-4790*9999-8418", Integer.MAX_VALUE);
    }

    private static void names() {
        BagRiders x = new BagRiders();
        x.road(0, 1, 10);
        x.road(1, 2, 20);
        x.kitchen(1, 15);
        x.kitchen(9, 15);
        x.rider(0, 2);
        x.rider(3, 0);
        x.order(0, 2, 30, 0);
        x.order(1, 2, 30, 0);
        int[] text = new int[7];
        String letters = "dwhrlcn";
        for (int i = 0; i < 7; i++) {
            text[i] = Due.text(x, letters.substring(i, i + 1));
        }
        x.minutes(7);
        // the WALKER: d 20, there at 27, c 40, drop at 67
        int[] due = {20, 7, 0, 25, 37, 40, 1};
        for (int i = 0; i < 7; i++) {
            Due.is("says " + letters.charAt(i), due[i], x.says(text[i], 1, 0));
        }
        // no WAY to or from kitchen 1
        int[] none = {0, 7, 0, 25, 0, 0, 1};
        for (int i = 0; i < 7; i++) {
            Due.is("says without a way " + letters.charAt(i), none[i], x.says(text[i], 1, 1));
        }
        x.order(0, 2, 30, 0);
        x.minutes(4);
        Due.is("w of one placed later", 4, x.says(text[1], 1, 2));
        Due.is("w of the first", 11, x.says(text[1], 1, 0));
        x.callOff(0);
        Due.is("late of one called off", 41, x.says(text[4], 1, 0));
        Due.is("w of one called off", 11, x.says(text[1], 1, 0));
        Due.is("says(8, ..)", Due.BEYOND, x.says(8, 0, 0));
        Due.is("says(-1, ..)", Due.BEYOND, x.says(-1, 0, 0));
        Due.is("says(0, 2, 0)", Due.BEYOND, x.says(0, 2, 0));
        Due.is("says(0, 0, 3)", Due.BEYOND, x.says(0, 0, 3));
        Due.is("findings", 4, x.status(0));
        // -9999 * 9999 - .. is below -1000000, but no finding
        int low = Due.text(x, "-9999*100-101");
        Due.is("says a finding's number", -1000001, x.says(low, 0, 0));
        Due.is("findings as they were", 4, x.status(-1));
    }

    private static void namesOfGiven() {
        BagRiders x = new BagRiders();
        x.road(0, 1, 10);
        x.kitchen(1, 15);
        x.rider(0, 0);
        x.rider(1, 1);
        x.order(0, 0, 20, 0);
        x.minutes(9);
        x.give(0, 0);
        x.minutes(50);
        // picked at 19, ready at 15, late by 9: the way and the rider lack 1 each
        int[] due = {10, 19, 1, 48, 9, 10, 0};
        int[] other = {0, 19, 0, 25, 9, 8, 1};
        String letters = "dwhrlcn";
        for (int i = 0; i < 7; i++) {
            int text = Due.text(x, letters.substring(i, i + 1));
            Due.is("says of a given one " + letters.charAt(i), due[i], x.says(text, 0, 0));
            Due.is("says of another " + letters.charAt(i), other[i], x.says(text, 1, 0));
        }
    }

    private static void force() {
        BagRiders x = new BagRiders();
        Due.is("force(0, 0) without", Due.BEYOND, x.force(0, 0));
        Due.text(x, "1");
        Due.text(x, "2");
        Due.is("force(0, 1)", -1, x.force(0, 1));
        Due.is("force(1, 0)", -1, x.force(1, 0));
        Due.is("force(0, -1)", 1, x.force(0, -1));
        Due.is("force(1, 1)", 0, x.force(1, 1));
        Due.is("force(0, 0)", -1, x.force(0, 0));
        Due.is("force(0, 2)", Due.BEYOND, x.force(0, 2));
        Due.is("force(0, -2)", Due.BEYOND, x.force(0, -2));
        Due.is("force(2, 0)", Due.BEYOND, x.force(2, 0));
        Due.is("force(-1, 0)", Due.BEYOND, x.force(-1, 0));
        Due.is("force(0, -1) as it was", 0, x.force(0, -1));
        Due.is("force(1, -1) as it was", 1, x.force(1, -1));
    }
}
