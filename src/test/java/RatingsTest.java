/** Promises 29 to 32. */
public final class RatingsTest {
    public static void main(String[] args) {
        lacks();
        ban();
        seen();
        doubles();
        doublesByOrder();
        Due.end();
    }

    private static void lacks() {
        BagRiders x = new BagRiders();
        x.road(0, 1, 20);
        x.kitchen(0, 1);
        x.rider(0, 1);
        Due.is("lacks(0, 0) of none", Due.BEYOND, x.lacks(0, 0));
        x.order(0, 0, 10, 14);
        x.order(0, 0, 20, 0);
        x.order(0, 0, 10, 60);
        Due.is("lacks of a waiting one", Due.NONE, x.lacks(0, 0));
        Due.is("lacks part 3", Due.BEYOND, x.lacks(0, 3));
        Due.is("lacks part -1", Due.BEYOND, x.lacks(0, -1));
        x.give(0, 0);
        // ready 15, pick 20, late 10
        Due.is("by cook", 2, x.lacks(0, 0));
        Due.is("by way", 0, x.lacks(0, 1));
        Due.is("by rider", 1, x.lacks(0, 2));
        Due.is("rating", 47, x.orderOf(0, 10));
        x.minutes(600);
        x.give(0, 1);
        // ready 1, pick 600, late 580: more lacks than there is
        Due.is("by cook", 0, x.lacks(1, 0));
        Due.is("by way", 116, x.lacks(1, 1));
        Due.is("by rider", 149, x.lacks(1, 2));
        Due.is("rating 0 at least", 0, x.orderOf(1, 10));
        Due.is("mean, cut", 23, x.riderOf(0, 6));
        x.callOff(2);
        Due.is("lacks of one called off", Due.NONE, x.lacks(2, 0));
        BagRiders late = new BagRiders();
        late.kitchen(0, 1);
        late.rider(0, 0);
        late.order(0, 0, 10, 34);
        late.give(0, 0);
        // ready and dropped at 35: late 25, by 5 less 6 of the cook
        Due.is("by cook", 6, late.lacks(0, 0));
        Due.is("by way 0 at least", 0, late.lacks(0, 1));
        Due.is("by rider", 0, late.lacks(0, 2));
    }

    private static void ban() {
        BagRiders x = new BagRiders();
        x.kitchen(0, 1);
        Due.is("ban of nobody", Due.BEYOND, x.ban(0, 50, 1));
        x.rider(0, 0);
        Due.is("limit 51", Due.BEYOND, x.ban(0, 51, 1));
        Due.is("limit -1", Due.BEYOND, x.ban(0, -1, 1));
        Due.is("orders 0", Due.BEYOND, x.ban(0, 50, 0));
        Due.is("orders 10", Due.BEYOND, x.ban(0, 50, 10));
        Due.is("without orders", 0, x.ban(0, 50, 1));
        x.order(0, 0, 10, 60);
        x.order(0, 0, 10, 0);
        x.order(0, 0, 10, 0);
        x.give(0, 0);
        // free from 61; the cook's delay and the lateness prove nothing
        Due.is("not the rider's lack", 0, x.ban(0, 50, 1));
        x.give(0, 1);
        // picked at 61, ready at 1: 15 lack; the mean of 50 and 35 is 42
        Due.is("proved", 1, x.ban(0, 43, 2));
        Due.is("not below", 0, x.ban(0, 42, 2));
        Due.is("too few orders", 0, x.ban(0, 50, 3));
        x.minutes(300);
        x.give(0, 2);
        // 299 / 4 = 74 lack: 0 at least; 85 / 3 = 28
        Due.is("proved with three", 1, x.ban(0, 29, 3));
        Due.is("not below with three", 0, x.ban(0, 28, 3));
        Due.is("limit 0", 0, x.ban(0, 0, 1));
        Due.is("another rider", Due.BEYOND, x.ban(1, 50, 1));
        x.rider(0, 0);
        x.order(0, 0, 10, 0);
        x.minutes(300);
        x.give(1, 3);
        Due.is("a mean of 0 is below 1", 1, x.ban(1, 1, 1));
        Due.is("a mean of 0 is not below 0", 0, x.ban(1, 0, 1));
    }

    private static void seen() {
        BagRiders x = new BagRiders();
        Due.is("seen nobody", Due.BEYOND, x.seen(0, 0, 0));
        x.rider(0, 0);
        x.rider(0, 0);
        Due.is("seen at 16", Due.BEYOND, x.seen(0, 16, 0));
        Due.is("seen at -1", Due.BEYOND, x.seen(0, -1, 0));
        Due.is("seen in 1440", Due.BEYOND, x.seen(0, 0, 1440));
        Due.is("seen in -1", Due.BEYOND, x.seen(0, 0, -1));
        for (int i = 1; i <= 20; i++) {
            Due.is("seen", i, x.seen(i % 2, 15, 1439));
        }
        Due.is("seen beyond all", Due.FULL, x.seen(0, 0, 0));
        Due.is("seen at 16 when full", Due.BEYOND, x.seen(0, 16, 0));
    }

    private static void doubles() {
        BagRiders x = new BagRiders();
        Due.is("doubles of nobody", Due.BEYOND, x.doubles(0, 0));
        x.rider(2, 0);
        x.rider(2, 0);
        x.road(0, 1, 10);
        Due.is("doubles of none", 0, x.doubles(0, 0));
        Due.is("the first of none", Due.NONE, x.doubles(0, 1));
        Due.is("the other of none", Due.NONE, x.doubles(0, 2));
        Due.is("what 3", Due.BEYOND, x.doubles(0, 3));
        Due.is("what -1", Due.BEYOND, x.doubles(0, -1));
        x.seen(0, 0, 100);
        x.seen(1, 1, 100);
        Due.is("of two riders", 0, x.doubles(0, 0));
        x.seen(0, 1, 110);
        Due.is("just in time (by WAY, not as a CAR)", 0, x.doubles(0, 0));
        x.seen(0, 0, 119);
        Due.is("a minute short", 1, x.doubles(0, 0));
        Due.is("the one", 2, x.doubles(0, 1));
        Due.is("the other", 3, x.doubles(0, 2));
        x.seen(1, 9, 700);
        Due.is("no way at all", 1, x.doubles(1, 0));
        Due.is("the one", 1, x.doubles(1, 1));
        Due.is("the other", 4, x.doubles(1, 2));
        x.seen(1, 9, 700);
        Due.is("the same twice", 2, x.doubles(1, 0));
        Due.is("the first still", 4, x.doubles(1, 2));
    }

    private static void doublesByOrder() {
        BagRiders x = new BagRiders();
        x.rider(0, 0);
        x.road(0, 1, 10);
        x.crossing(1, 0, 5);
        // told last, but seen first: down from the hill takes 10, up to it 15
        x.seen(0, 0, 50);
        x.seen(0, 1, 40);
        Due.is("down the hill in time", 0, x.doubles(0, 0));
        x.seen(0, 1, 64);
        Due.is("up the hill a minute short", 1, x.doubles(0, 0));
        Due.is("the one", 0, x.doubles(0, 1));
        Due.is("the other", 2, x.doubles(0, 2));
        x.seen(0, 0, 64);
        // 3 is like 2 in its MINUTE, elsewhere; 24 MINUTES behind 1
        Due.is("two in one minute", 2, x.doubles(0, 0));
        Due.is("the first still", 0, x.doubles(0, 1));
    }
}
