/** Promises 6 to 12. */
public final class OrdersTest {
    public static void main(String[] args) {
        kitchens();
        orders();
        orderOf();
        callOff();
        riders();
        riderOf();
        goes();
        Due.end();
    }

    private static void kitchens() {
        BagRiders x = new BagRiders();
        Due.is("kitchen(16, 5)", Due.BEYOND, x.kitchen(16, 5));
        Due.is("kitchen(-1, 5)", Due.BEYOND, x.kitchen(-1, 5));
        Due.is("kitchen(0, 0)", Due.BEYOND, x.kitchen(0, 0));
        Due.is("kitchen(0, 61)", Due.BEYOND, x.kitchen(0, 61));
        for (int k = 0; k < 6; k++) {
            Due.is("kitchen", k, x.kitchen(k, 1 + 59 * (k % 2)));
        }
        Due.is("kitchen beyond all", Due.FULL, x.kitchen(0, 1));
        Due.is("kitchen(0, 61) when full", Due.BEYOND, x.kitchen(0, 61));
        Due.is("count(1)", 6, x.count(1));
    }

    private static void orders() {
        BagRiders x = new BagRiders();
        Due.is("order without a kitchen", Due.BEYOND, x.order(0, 0, 10, 0));
        x.kitchen(3, 7);
        Due.is("order(1, ..)", Due.BEYOND, x.order(1, 0, 10, 0));
        Due.is("order(-1, ..)", Due.BEYOND, x.order(-1, 0, 10, 0));
        Due.is("order to 16", Due.BEYOND, x.order(0, 16, 10, 0));
        Due.is("order promised 9", Due.BEYOND, x.order(0, 0, 9, 0));
        Due.is("order promised 121", Due.BEYOND, x.order(0, 0, 121, 0));
        Due.is("order delay -1", Due.BEYOND, x.order(0, 0, 10, -1));
        Due.is("order delay 61", Due.BEYOND, x.order(0, 0, 10, 61));
        for (int o = 0; o < 24; o++) {
            Due.is("order", o, x.order(0, o % 16, 10 + 110 * (o % 2), 60 * (o % 2)));
        }
        Due.is("order beyond all", Due.FULL, x.order(0, 0, 10, 0));
        Due.is("order promised 9 when full", Due.BEYOND, x.order(0, 0, 9, 0));
        Due.is("count(2)", 24, x.count(2));
        Due.is("count(3)", 24, x.count(3));
    }

    private static void orderOf() {
        BagRiders x = new BagRiders();
        x.road(0, 1, 10);
        x.kitchen(0, 5);
        x.kitchen(1, 8);
        x.minutes(100);
        x.order(1, 0, 20, 12);
        Due.is("kitchen", 1, x.orderOf(0, 0));
        Due.is("crossing", 0, x.orderOf(0, 1));
        Due.is("placed", 100, x.orderOf(0, 2));
        Due.is("ready", 120, x.orderOf(0, 3));
        Due.is("state", 0, x.orderOf(0, 4));
        for (int what = 5; what <= 10; what++) {
            Due.is("of a waiting one " + what, Due.NONE, x.orderOf(0, what));
        }
        Due.is("what 11", Due.BEYOND, x.orderOf(0, 11));
        Due.is("what -1", Due.BEYOND, x.orderOf(0, -1));
        Due.is("order 1", Due.BEYOND, x.orderOf(1, 0));
        Due.is("order -1", Due.BEYOND, x.orderOf(-1, 0));
        x.rider(0, 0);
        x.minutes(20);
        x.force(1, Due.text(x, "77"));
        Due.is("give", 140, x.give(0, 0));
        Due.is("state given", 1, x.orderOf(0, 4));
        Due.is("its rider", 0, x.orderOf(0, 5));
        Due.is("pick", 130, x.orderOf(0, 6));
        Due.is("drop", 140, x.orderOf(0, 7));
        Due.is("late", 20, x.orderOf(0, 8));
        Due.is("pay", 77, x.orderOf(0, 9));
        // lacks: cook 12 / 5 = 2, way 20 / 5 - 2 = 2, rider 10 / 4 = 2
        Due.is("rating", 44, x.orderOf(0, 10));
        x.minutes(600);
        x.minutes(600);
        x.minutes(119);
        x.order(1, 0, 20, 60);
        Due.is("ready above the last minute", 1439 + 8 + 60, x.orderOf(1, 3));
    }

    private static void callOff() {
        BagRiders x = new BagRiders();
        Due.is("callOff(0) of none", Due.BEYOND, x.callOff(0));
        x.kitchen(0, 5);
        x.rider(0, 0);
        x.order(0, 0, 10, 0);
        x.order(0, 0, 10, 0);
        Due.is("callOff(0)", 1, x.callOff(0));
        Due.is("state", 2, x.orderOf(0, 4));
        Due.is("rider of it", Due.NONE, x.orderOf(0, 5));
        Due.is("callOff(0) again", Due.STATE, x.callOff(0));
        Due.is("callOff(-1)", Due.BEYOND, x.callOff(-1));
        x.give(0, 1);
        Due.is("callOff of a given one", Due.STATE, x.callOff(1));
        Due.is("count(3)", 0, x.count(3));
        Due.is("count(2)", 2, x.count(2));
    }

    private static void riders() {
        BagRiders x = new BagRiders();
        Due.is("rider(-1, 0)", Due.BEYOND, x.rider(-1, 0));
        Due.is("rider(7, 0)", Due.BEYOND, x.rider(7, 0));
        Due.is("rider(0, 16)", Due.BEYOND, x.rider(0, 16));
        Due.is("rider(0, -1)", Due.BEYOND, x.rider(0, -1));
        for (int r = 0; r < 12; r++) {
            Due.is("rider", r, x.rider(r % 7, r));
        }
        Due.is("rider beyond all", Due.FULL, x.rider(0, 0));
        Due.is("rider(7, 0) when full", Due.BEYOND, x.rider(7, 0));
        Due.is("count(4)", 12, x.count(4));
    }

    private static void riderOf() {
        BagRiders x = new BagRiders();
        x.road(2, 3, 10);
        x.kitchen(2, 1);
        x.minutes(50);
        x.rider(4, 3);
        Due.is("kind", 4, x.riderOf(0, 0));
        Due.is("where", 3, x.riderOf(0, 1));
        Due.is("free from", 50, x.riderOf(0, 2));
        Due.is("given", 0, x.riderOf(0, 3));
        Due.is("engaged", 0, x.riderOf(0, 4));
        Due.is("pay", 0, x.riderOf(0, 5));
        Due.is("rating", 25, x.riderOf(0, 6));
        Due.is("refused", 0, x.riderOf(0, 7));
        Due.is("what 8", Due.BEYOND, x.riderOf(0, 8));
        Due.is("what -1", Due.BEYOND, x.riderOf(0, -1));
        Due.is("rider 1", Due.BEYOND, x.riderOf(1, 0));
        x.order(0, 2, 10, 0);
        x.order(0, 3, 20, 0);
        x.order(0, 3, 20, 0);
        x.force(1, Due.text(x, "10"));
        x.refuse(0, 0);
        x.refuse(0, 2);
        // a MOTOR goes 10 in 7 (3/4, up, less 1); there at 57, picked and dropped at 2
        Due.is("give 0", 57, x.give(0, 0));
        Due.is("where it is then", 2, x.riderOf(0, 1));
        Due.is("give 1", 64, x.give(0, 1));
        Due.is("where", 3, x.riderOf(0, 1));
        Due.is("free", 64, x.riderOf(0, 2));
        Due.is("given", 2, x.riderOf(0, 3));
        Due.is("engaged", 14, x.riderOf(0, 4));
        x.app(0, 50, 60);
        Due.is("engaged with another app", 14, x.riderOf(0, 4));
        Due.is("pay", 20, x.riderOf(0, 5));
        // both were ready at 51 and picked at 57: 6 / 4 = 1 lacks
        Due.is("rating", 49, x.riderOf(0, 6));
        Due.is("refused", 2, x.riderOf(0, 7));
        Due.is("kind still", 4, x.riderOf(0, 0));
    }

    private static void goes() {
        BagRiders x = new BagRiders();
        x.road(0, 1, 13);
        x.road(2, 3, 1);
        x.road(4, 5, 2);
        int[][] due = {
            // for WAYS 0, 13, 1, 2
            {0, 13, 1, 2},
            {0, 10, 1, 2},
            {3, 10, 4, 4},
            {0, 26, 2, 4},
            {0, 9, 1, 1},
            {0, 13, 1, 2},
            {0, 28, 4, 6},
        };
        for (int kind = 0; kind < 7; kind++) {
            x.rider(kind, 9);
            Due.is("goes 0 of " + kind, due[kind][0], x.goes(kind, 8, 8));
            Due.is("goes 13 of " + kind, due[kind][1], x.goes(kind, 0, 1));
            Due.is("goes 1 of " + kind, due[kind][2], x.goes(kind, 2, 3));
            Due.is("goes 2 of " + kind, due[kind][3], x.goes(kind, 4, 5));
            Due.is("goes nowhere", Due.NONE, x.goes(kind, 0, 2));
        }
        Due.is("goes(7, ..)", Due.BEYOND, x.goes(7, 0, 1));
        Due.is("goes(0, 16, 1)", Due.BEYOND, x.goes(0, 16, 1));
        Due.is("goes(0, 0, -1)", Due.BEYOND, x.goes(0, 0, -1));
    }
}
