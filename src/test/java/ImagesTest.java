/** Promises 44 to 48. */
public final class ImagesTest {
    public static void main(String[] args) {
        keepAndUndo();
        everythingComesBack();
        tapeAndSheetsStay();
        tear();
        count();
        status();
        findingsChangeNothing();
        Due.end();
    }

    private static void keepAndUndo() {
        BagRiders x = new BagRiders();
        Due.is("undo without", Due.NONE, x.undo());
        x.minutes(5);
        Due.is("image", 1, x.image());
        x.minutes(10);
        Due.is("undo", 5, x.undo());
        Due.is("now", 5, x.count(0));
        x.minutes(20);
        Due.is("undo again: it stays", 5, x.undo());
        x.minutes(1);
        Due.is("image of later", 1, x.image());
        x.minutes(1);
        Due.is("undo to the latest", 6, x.undo());
        Due.is("undo to the latest again", 6, x.undo());
    }

    private static BagRiders busy() {
        BagRiders x = new BagRiders();
        x.road(0, 1, 10);
        x.crossing(1, 0, 2);
        x.crossing(1, 1, 1);
        x.kitchen(0, 1);
        x.rider(1, 0);
        x.order(0, 1, 30, 0);
        x.order(0, 1, 30, 0);
        x.refuse(0, 1);
        x.force(0, Due.text(x, "d+7"));
        x.force(1, 0);
        x.law(60);
        x.rain(0, 5, 10);
        x.app(0, 0, 4);
        x.seen(0, 0, 0);
        x.hold(0, 0);
        x.give(0, 0);
        return x;
    }

    private static int[] answers(BagRiders x) {
        return new int[] {
            x.way(0, 1), x.way(0, 2), x.zone(1, 0), x.zone(1, 1), x.zone(1, 2), x.zone(1, 3),
            x.zone(2, 0), x.count(0), x.count(1), x.count(2), x.count(3), x.count(4), x.count(5),
            x.orderOf(0, 4), x.orderOf(0, 5), x.orderOf(0, 6), x.orderOf(0, 7), x.orderOf(0, 8),
            x.orderOf(0, 9), x.orderOf(0, 10), x.orderOf(1, 4), x.orderOf(1, 5),
            x.riderOf(0, 0), x.riderOf(0, 1), x.riderOf(0, 2), x.riderOf(0, 3), x.riderOf(0, 4),
            x.riderOf(0, 5), x.riderOf(0, 6), x.riderOf(0, 7), x.least(0, 0), x.least(0, 1),
            x.says(0, 0, 1), x.says(1, 0, 1), x.doubles(0, 0), x.doubles(0, 2), x.as(0, 0), x.as(1, 0),
            x.night(0, 1), x.night(0, 4), x.whom(0, 1), x.starves(0), x.lacks(0, 2)
        };
    }

    private static void everythingComesBack() {
        BagRiders x = busy();
        int[] was = answers(x);
        x.image();
        x.road(0, 1, 3);
        x.road(1, 2, 3);
        x.crossing(1, 0, 7);
        x.crossing(1, 1, 2);
        x.minutes(50);
        x.kitchen(1, 1);
        x.rider(2, 1);
        x.order(0, 1, 30, 0);
        Due.text(x, "5");
        x.force(0, 1);
        x.force(1, -1);
        x.law(600);
        x.rain(0, 1439, 99);
        x.app(0, 0, 100);
        x.seen(0, 2, 0);
        x.hold(0, -1);
        x.hold(1, 0);
        x.refuse(0, 2);
        x.give(0, 1);
        x.callOff(2);
        int[] changed = answers(x);
        int other = 0;
        for (int i = 0; i < was.length; i++) {
            other += changed[i] != was[i] ? 1 : 0;
        }
        Due.isTrue("most of it was changed: " + other, other > 25);
        Due.is("undo", 0, x.undo());
        int[] back = answers(x);
        for (int i = 0; i < was.length; i++) {
            Due.is("answer " + i + " after undo", was[i], back[i]);
        }
        Due.is("the rule", 0, x.force(0, -1));
        Due.is("the pay", 0, x.force(1, -1));
        Due.is("the law", 60, x.law(60));
        Due.is("refused still", Due.STATE, x.refuse(0, 1));
        Due.is("rains", 2, x.rain(0, 1, 1));
        Due.is("apps", 2, x.app(0, 0, 1));
        Due.is("sightings", 2, x.seen(0, 0, 0));
        Due.is("kitchens", 1, x.kitchen(0, 1));
        Due.is("a text anew", 1, Due.text(x, "8"));
        Due.is("says it", 8, x.says(1, 0, 0));
        Due.is("an order anew", 2, x.order(0, 1, 30, 0));
        Due.is("it waits", 0, x.orderOf(2, 4));
        Due.is("nobody refused it", 2, x.refuse(0, 2));
        Due.is("undo once more", 0, x.undo());
        int[] again = answers(x);
        for (int i = 0; i < was.length; i++) {
            Due.is("answer " + i + " after undo again", was[i], again[i]);
        }
    }

    private static void tapeAndSheetsStay() {
        BagRiders x = new BagRiders();
        x.sheet(0, 8, 3);
        Due.feed(x, "12");
        x.image();
        Due.feed(x, "3");
        x.sheet(1, 16, 2);
        x.write(0, 0, 1);
        x.write(0, 1, 2);
        x.write(0, 2, 9);
        x.undo();
        Due.is("THE TAPE stays", 3, x.count(6));
        Due.is("sheet 0 stays", 1, x.roads(0));
        Due.is("way", 9, x.way(1, 2));
        Due.is("sheet 1 stays", 1, x.write(1, 1, 0));
        Due.is("text", 0, x.text());
        x.undo();
        Due.is("texts are undone", 0, x.count(5));
        Due.is("roads are undone", Due.NONE, x.way(1, 2));
        Due.is("THE TAPE stays empty", 0, x.count(6));
    }

    private static void tear() {
        BagRiders x = new BagRiders();
        Due.is("tear nothing", 0, x.tear());
        x.image();
        x.image();
        Due.is("tear", 1, x.tear());
        Due.is("tear again", 0, x.tear());
        Due.is("undo", Due.NONE, x.undo());
        x.minutes(3);
        x.image();
        x.minutes(3);
        Due.is("undo of a new image", 3, x.undo());
    }

    private static void count() {
        BagRiders x = busy();
        int[] due = {0, 1, 2, 1, 1, 1, 0};
        for (int what = 0; what < 7; what++) {
            Due.is("count(" + what + ")", due[what], x.count(what));
        }
        Due.feed(x, "wow");
        Due.is("count(6)", 3, x.count(6));
        x.minutes(44);
        Due.is("count(0)", 44, x.count(0));
        Due.is("count(7)", Due.BEYOND, x.count(7));
        Due.is("count(-1)", Due.BEYOND, x.count(-1));
    }

    private static void status() {
        BagRiders x = new BagRiders();
        x.rider(1, 0);
        x.hold(0, 0);
        x.way(0, 16);
        x.image();
        x.way(0, 1);
        x.way(0, 1);
        x.as(0, 2);
        x.as(1, 2);
        x.offerAll();
        x.sheet(0, 8, -1);
        x.feed(0, 4);
        for (int i = 0; i < 20; i++) {
            x.feed(0, 4);
        }
        x.undo();
        int[] due = {1, 1, 1, 2, 1, 1, 1};
        for (int f = 0; f < 7; f++) {
            Due.is("status(" + f + ")", due[f], x.status(f));
        }
        Due.is("status(-1)", 8, x.status(-1));
        Due.is("status(7)", Due.BEYOND, x.status(7));
        Due.is("status(-2)", Due.BEYOND, x.status(-2));
        Due.is("status(0) counts these", 3, x.status(0));
        Due.is("status(-1) counts these", 10, x.status(-1));
    }

    /** Every finding leaves all other answers as they were. */
    private static void findingsChangeNothing() {
        BagRiders x = busy();
        int[] was = answers(x);
        x.crossing(1, 0, 10);
        x.road(0, 1, 0);
        x.minutes(0);
        x.kitchen(16, 1);
        x.order(0, 0, 9, 0);
        x.rider(7, 0);
        x.callOff(0);
        x.give(0, 0);
        x.giveTwo(0, 0, 1);
        x.feed(0, 5);
        x.force(0, 9);
        x.refuse(0, 1);
        x.rain(5, 4, 1);
        x.law(1000);
        x.app(0, 5, 5);
        x.seen(0, 16, 0);
        x.hold(0, 5);
        x.undo();
        int[] now = answers(x);
        for (int i = 0; i < was.length; i++) {
            Due.is("answer " + i + " after findings", was[i], now[i]);
        }
    }
}
