/** Promises 25 to 28, and PAY. */
public final class PayTest {
    public static void main(String[] args) {
        rain();
        payInRain();
        payBounds();
        payAsGiven();
        law();
        apps();
        least();
        Due.end();
    }

    private static void rain() {
        BagRiders x = new BagRiders();
        Due.is("rain(-1, 5, 5)", Due.BEYOND, x.rain(-1, 5, 5));
        Due.is("rain(0, 1440, 5)", Due.BEYOND, x.rain(0, 1440, 5));
        Due.is("rain(1440, 1440, 5)", Due.BEYOND, x.rain(1440, 1440, 5));
        Due.is("rain(5, 4, 5)", Due.BEYOND, x.rain(5, 4, 5));
        Due.is("rain(0, 5, 0)", Due.BEYOND, x.rain(0, 5, 0));
        Due.is("rain(0, 5, 100)", Due.BEYOND, x.rain(0, 5, 100));
        for (int r = 1; r <= 6; r++) {
            Due.is("rain", r, x.rain(1439, 1439, 1 + 98 * (r % 2)));
        }
        Due.is("rain beyond all", Due.FULL, x.rain(0, 5, 5));
        Due.is("rain(5, 4, 5) when full", Due.BEYOND, x.rain(5, 4, 5));
    }

    private static void payInRain() {
        BagRiders x = new BagRiders();
        x.kitchen(0, 10);
        x.rider(0, 0);
        x.force(1, Due.text(x, "333"));
        x.order(0, 0, 10, 0);
        x.give(0, 0);
        Due.is("dry", 333, x.orderOf(0, 9));
        x.rain(0, 9, 50);
        x.rain(11, 20, 50);
        Due.is("rain ahead and behind", 333, x.orderOf(0, 9));
        x.rain(0, 10, 10);
        Due.is("rain to it", 366, x.orderOf(0, 9));
        x.rain(10, 30, 10);
        Due.is("rain from it: together", 399, x.orderOf(0, 9));
        x.rain(10, 10, 10);
        Due.is("rain in it: 30 hundredths of 333", 432, x.orderOf(0, 9));
        x.rain(0, 1439, 99);
        Due.is("rain on top", 333 + 333 * 129 / 100, x.orderOf(0, 9));
        Due.is("of all", 333 + 333 * 129 / 100, x.riderOf(0, 5));
        Due.is("of the zone", 333 + 333 * 129 / 100, x.zone(0, 3));
    }

    private static void payBounds() {
        BagRiders x = new BagRiders();
        x.kitchen(0, 10);
        x.rider(0, 0);
        for (int o = 0; o < 5; o++) {
            x.order(0, 0, 10, 0);
        }
        x.give(0, 0);
        Due.is("without a text", 0, x.orderOf(0, 9));
        x.force(1, Due.text(x, "0-1"));
        x.give(0, 1);
        Due.is("below 0", 0, x.orderOf(1, 9));
        x.force(1, Due.text(x, "9999+1"));
        x.give(0, 2);
        Due.is("above 9999", 9999, x.orderOf(2, 9));
        x.rain(0, 1439, 99);
        Due.is("rain above 9999", 9999 + 9899, x.orderOf(2, 9));
        x.force(1, -1);
        x.give(0, 3);
        Due.is("without a text again", 0, x.orderOf(3, 9));
        Due.is("as it was given", 9999 + 9899, x.orderOf(2, 9));
        Due.is("of all", 9999 + 9899, x.riderOf(0, 5));
    }

    private static void payAsGiven() {
        BagRiders x = new BagRiders();
        x.road(0, 1, 10);
        x.kitchen(1, 15);
        x.rider(0, 0);
        x.order(0, 0, 20, 0);
        x.order(0, 0, 20, 0);
        x.minutes(3);
        // d 10, w 15 (PICK), h 0, r 25, l 5 (drop 25), c 10, n 0
        x.force(1, Due.text(x, "d+w*10+h*500+r*2+l+c*100"));
        x.give(0, 0);
        Due.is("names ahead of it", 10 + 150 + 50 + 5 + 1000, x.orderOf(0, 9));
        x.minutes(600);
        x.road(0, 1, 1);
        Due.is("later", 10 + 150 + 50 + 5 + 1000, x.orderOf(0, 9));
        // d 1, w 604, h 1, r 49 (late by 5), l 585, c 1
        x.give(0, 1);
        Due.is("the next", 1 + 6040 + 500 + 98 + 585 + 100, x.orderOf(1, 9));
    }

    private static void law() {
        BagRiders x = new BagRiders();
        Due.is("law(-1)", Due.BEYOND, x.law(-1));
        Due.is("law(1000)", Due.BEYOND, x.law(1000));
        Due.is("law(999)", 0, x.law(999));
        Due.is("law(0)", 999, x.law(0));
        Due.is("law(5)", 0, x.law(5));
    }

    private static void apps() {
        BagRiders x = new BagRiders();
        Due.is("app of nobody", Due.BEYOND, x.app(0, 0, 1));
        x.rider(0, 0);
        x.rider(0, 0);
        Due.is("app(0, 5, 5)", Due.BEYOND, x.app(0, 5, 5));
        Due.is("app(0, 6, 5)", Due.BEYOND, x.app(0, 6, 5));
        Due.is("app(0, -1, 5)", Due.BEYOND, x.app(0, -1, 5));
        Due.is("app(0, 0, 1440)", Due.BEYOND, x.app(0, 0, 1440));
        for (int a = 1; a <= 4; a++) {
            Due.is("app", a, x.app(0, 0, 1439));
        }
        Due.is("app beyond all", Due.FULL, x.app(0, 0, 1));
        Due.is("app(0, 5, 5) when full", Due.BEYOND, x.app(0, 5, 5));
        Due.is("app of another", 1, x.app(1, 0, 1));
    }

    private static void least() {
        BagRiders x = new BagRiders();
        x.road(0, 1, 20);
        x.kitchen(0, 1);
        x.rider(0, 0);
        x.rider(0, 0);
        Due.is("least of none", 0, x.least(0, 0));
        x.law(100);
        Due.is("top of none", 0, x.least(0, 1));
        x.force(1, Due.text(x, "5"));
        x.minutes(10);
        x.order(0, 1, 30, 0);
        x.order(0, 0, 30, 0);
        // engaged 10 to 31, then 40 to 60
        Due.is("give", 31, x.give(0, 0));
        x.minutes(30);
        Due.is("give", 60, x.give(0, 1));
        Due.is("counts", 41, x.least(0, 0));
        // 4100 / 60 = 68.3, up, less 10
        Due.is("top", 59, x.least(0, 1));
        x.app(0, 0, 10);
        x.app(0, 31, 40);
        Due.is("apps between", 41, x.least(0, 0));
        x.app(0, 30, 41);
        // two MINUTES, 30 and 40, half of these together
        Due.is("two minutes", 40, x.least(0, 0));
        x.app(0, 40, 43);
        // 30, 40, 41, 42; 40 is in two of these, once
        Due.is("four minutes", 39, x.least(0, 0));
        Due.is("engaged, whole", 41, x.riderOf(0, 4));
        Due.is("top", 65 - 10, x.least(0, 1));
        x.law(10);
        Due.is("top 0 at least", 0, x.least(0, 1));
        x.law(60);
        Due.is("top, no rest", 39 - 10, x.least(0, 1));
        x.rain(0, 1439, 99);
        Due.is("top less pay in rain", 39 - 18, x.least(0, 1));
        Due.is("another rider", 0, x.least(1, 0));
        Due.is("least what 2", Due.BEYOND, x.least(0, 2));
        Due.is("least what -1", Due.BEYOND, x.least(0, -1));
        Due.is("least of 2", Due.BEYOND, x.least(2, 0));
        oneMinute();
    }

    private static void oneMinute() {
        BagRiders x = new BagRiders();
        x.kitchen(0, 1);
        x.rider(0, 0);
        x.order(0, 0, 10, 0);
        x.give(0, 0);
        x.law(1);
        Due.is("one minute", 1, x.least(0, 0));
        Due.is("up", 1, x.least(0, 1));
        x.app(0, 0, 1);
        Due.is("one minute within", 0, x.least(0, 0));
        Due.is("nothing", 0, x.least(0, 1));
    }
}
