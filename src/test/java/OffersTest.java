/** Promises 22 to 24. */
public final class OffersTest {
    public static void main(String[] args) {
        offered();
        refuse();
        offerAll();
        Due.end();
    }

    private static void offered() {
        BagRiders x = new BagRiders();
        x.road(0, 1, 10);
        x.road(1, 2, 5);
        x.kitchen(1, 1);
        Due.is("offered(0) of none", Due.BEYOND, x.offered(0));
        x.order(0, 2, 60, 0);
        Due.is("offered without a rule", Due.STATE, x.offered(0));
        int near = Due.text(x, "-d");
        int far = Due.text(x, "d");
        int same = Due.text(x, "5");
        int last = Due.text(x, "n");
        x.force(0, near);
        Due.is("offered to nobody", Due.NONE, x.offered(0));
        x.rider(0, 9);
        Due.is("offered without a trip", Due.NONE, x.offered(0));
        x.rider(0, 0);
        x.rider(0, 2);
        x.rider(0, 2);
        Due.is("offered to the nearest, the least", 2, x.offered(0));
        x.force(0, far);
        Due.is("offered to the farthest", 1, x.offered(0));
        x.force(0, same);
        Due.is("offered, all alike", 1, x.offered(0));
        x.force(0, last);
        Due.is("offered to the last", 3, x.offered(0));
        x.refuse(3, 0);
        Due.is("offered to who did not refuse", 2, x.offered(0));
        x.order(0, 2, 60, 0);
        x.give(2, 1);
        // rider 2 is free from 10 on
        Due.is("offered to who is free", 1, x.offered(0));
        x.minutes(9);
        Due.is("offered a minute early", 1, x.offered(0));
        x.minutes(1);
        Due.is("offered as it is free", 2, x.offered(0));
        x.order(0, 2, 60, 0);
        Due.is("offered another one", 3, x.offered(2));
        Due.is("offered a given one", Due.STATE, x.offered(1));
        x.callOff(2);
        Due.is("offered one called off", Due.STATE, x.offered(2));
        Due.is("offered(3)", Due.BEYOND, x.offered(3));
        Due.is("offered(-1)", Due.BEYOND, x.offered(-1));
        x.force(0, -1);
        Due.is("offered without a rule", Due.STATE, x.offered(0));
        // negative values compare as they are, with wait and lateness
        x.order(0, 2, 60, 0);
        x.minutes(2);
        int waits = Due.text(x, "(w=2)*n+(w=12)*(5-n)");
        x.force(0, waits);
        Due.is("offered by a wait of 12", 1, x.offered(0));
        Due.is("offered by a wait of 2", 3, x.offered(3));
        int late = Due.text(x, "0-l-w");
        x.force(0, late);
        Due.is("offered by lateness", 1, x.offered(0));
    }

    private static void refuse() {
        BagRiders x = new BagRiders();
        x.kitchen(0, 1);
        x.order(0, 0, 10, 0);
        x.order(0, 0, 10, 0);
        x.order(0, 0, 10, 0);
        Due.is("refuse by nobody", Due.BEYOND, x.refuse(0, 0));
        x.rider(0, 0);
        x.rider(0, 9);
        Due.is("refuse no order", Due.BEYOND, x.refuse(0, 3));
        Due.is("refuse -1", Due.BEYOND, x.refuse(0, -1));
        Due.is("refuse(0, 0)", 1, x.refuse(0, 0));
        Due.is("refuse(0, 0) again", Due.STATE, x.refuse(0, 0));
        Due.is("refuse(0, 1)", 2, x.refuse(0, 1));
        Due.is("refuse(1, 0)", 1, x.refuse(1, 0));
        x.callOff(2);
        Due.is("refuse one called off", Due.STATE, x.refuse(0, 2));
        x.give(0, 1);
        Due.is("refuse a given one", Due.STATE, x.refuse(1, 1));
        Due.is("riderOf", 2, x.riderOf(0, 7));
        Due.is("riderOf", 1, x.riderOf(1, 7));
    }

    private static void offerAll() {
        BagRiders x = new BagRiders();
        Due.is("offerAll without a rule", Due.STATE, x.offerAll());
        x.road(0, 1, 10);
        x.kitchen(0, 1);
        x.rider(0, 0);
        x.rider(0, 1);
        x.force(0, Due.text(x, "0-h"));
        x.force(1, Due.text(x, "100+h"));
        Due.is("offerAll of none", 0, x.offerAll());
        x.order(0, 0, 30, 0);
        x.order(0, 1, 30, 0);
        x.order(0, 9, 30, 0);
        x.order(0, 1, 30, 0);
        x.order(0, 1, 30, 0);
        x.callOff(1);
        x.refuse(0, 0);
        // 0 to rider 1 (0 refused it), 2 has no way, 3 to rider 0, 4 finds nobody free
        Due.is("offerAll", 2, x.offerAll());
        Due.is("order 0", 1, x.orderOf(0, 5));
        Due.is("order 1", 2, x.orderOf(1, 4));
        Due.is("order 2", 0, x.orderOf(2, 4));
        Due.is("order 3", 0, x.orderOf(3, 5));
        Due.is("order 4", 0, x.orderOf(4, 4));
        Due.is("pay", 100, x.orderOf(3, 9));
        x.minutes(30);
        // rider 0 was free at 11, rider 1 at 10; both h 1
        Due.is("offerAll later", 1, x.offerAll());
        Due.is("order 4", 0, x.orderOf(4, 5));
        Due.is("drop", 50, x.orderOf(4, 7));
        Due.is("pay with h", 101, x.orderOf(4, 9));
        Due.is("engaged", 11 + 20, x.riderOf(0, 4));
        Due.is("offerAll again", 0, x.offerAll());
        x.force(0, -1);
        Due.is("offerAll without a rule again", Due.STATE, x.offerAll());
    }
}
