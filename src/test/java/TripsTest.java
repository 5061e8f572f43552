/** Promises 13 to 16. */
public final class TripsTest {
    public static void main(String[] args) {
        trip();
        endOfTheDay();
        joinedWays();
        joinedFindings();
        give();
        giveTwo();
        Due.end();
    }

    private static void trip() {
        BagRiders x = new BagRiders();
        x.road(0, 1, 10);
        x.road(1, 2, 20);
        x.kitchen(1, 15);
        x.rider(0, 0);
        x.rider(0, 9);
        x.order(0, 2, 30, 0);
        x.order(0, 9, 30, 0);
        Due.is("pick at ready", 15, x.trip(0, 0, 0));
        Due.is("drop", 35, x.trip(0, 0, 1));
        Due.is("late", 5, x.trip(0, 0, 2));
        Due.is("what 3", Due.BEYOND, x.trip(0, 0, 3));
        Due.is("what -1", Due.BEYOND, x.trip(0, 0, -1));
        Due.is("rider 2", Due.BEYOND, x.trip(2, 0, 0));
        Due.is("order 2", Due.BEYOND, x.trip(0, 2, 0));
        Due.is("no way to the kitchen", Due.NONE, x.trip(1, 0, 0));
        Due.is("no way to the crossing", Due.NONE, x.trip(0, 1, 0));
        x.minutes(10);
        Due.is("pick when there", 20, x.trip(0, 0, 0));
        Due.is("drop", 40, x.trip(0, 0, 1));
        x.order(0, 2, 60, 0);
        Due.is("not late", 0, x.trip(0, 2, 2));
        x.give(0, 0);
        // free from 40 at crossing 2: at the kitchen at 60, back at 80; placed at 10
        Due.is("from when it is free", 60, x.trip(0, 2, 0));
        Due.is("drop", 80, x.trip(0, 2, 1));
        Due.is("late", 10, x.trip(0, 2, 2));
        Due.is("of a given order", Due.STATE, x.trip(0, 0, 0));
        x.callOff(2);
        Due.is("of one called off", Due.STATE, x.trip(0, 2, 0));
        Due.is("one called off, what 3", Due.BEYOND, x.trip(0, 2, 3));
    }

    private static void endOfTheDay() {
        BagRiders x = new BagRiders();
        x.road(0, 1, 20);
        x.road(0, 2, 21);
        x.kitchen(0, 1);
        x.rider(0, 0);
        x.minutes(600);
        x.minutes(600);
        x.minutes(218);
        x.order(0, 1, 10, 0);
        x.order(0, 2, 10, 0);
        Due.is("ends at 1439", 1439, x.trip(0, 0, 1));
        Due.is("would end at 1440", Due.NONE, x.trip(0, 1, 1));
        Due.is("give it", Due.NONE, x.give(0, 1));
        Due.is("join ends too late", Due.NONE, x.join(0, 0, 1, 0));
        Due.is("giveTwo ends too late", Due.NONE, x.giveTwo(0, 0, 1));
        Due.is("still waiting", 2, x.count(3));
        Due.is("give at the end", 1439, x.give(0, 0));
    }

    /** Each of the six ways is the best one somewhere. */
    private static void joinedWays() {
        BagRiders line = new BagRiders();
        // kitchens at 1 and 3, on a line 0 - 1 - 2 - 3 - 4 of 10 each
        for (int c = 0; c < 4; c++) {
            line.road(c, c + 1, 10);
        }
        line.kitchen(1, 1);
        line.kitchen(3, 1);
        line.rider(0, 0);
        line.order(0, 2, 120, 0);
        line.order(1, 4, 120, 0);
        line.order(1, 2, 120, 0);
        line.order(0, 4, 120, 0);
        line.order(0, 3, 120, 0);
        Due.is("0 then 1", 0, line.join(0, 0, 1, 0));
        Due.is("ends", 40, line.join(0, 0, 1, 2));
        Due.is("drop of the one", 20, line.join(0, 0, 1, 3));
        Due.is("drop of the other", 40, line.join(0, 0, 1, 4));
        Due.is("late", 0, line.join(0, 0, 1, 1));
        Due.is("told the other way", 1, line.join(0, 1, 0, 0));
        Due.is("drop of the one", 40, line.join(0, 1, 0, 3));
        Due.is("drop of the other", 20, line.join(0, 1, 0, 4));
        // pick 3 at 1, pick 1 at 3, both to 4: the drops end alike, so a is dropped first
        Due.is("picks, a, b", 2, line.join(0, 3, 1, 0));
        Due.is("picks told about", 4, line.join(0, 1, 3, 0));
        // from 1 to 4, from 3 to 2: on to 4 and back to 2 by three ways, the first of them counts
        Due.is("a whole, then b, as they end alike", 0, line.join(0, 3, 2, 0));
        Due.is("ends", 60, line.join(0, 3, 2, 2));
        Due.is("b whole, then a, as they end alike", 1, line.join(0, 2, 3, 0));
        // from 1 to 3, from 2 to 4: each where it lies on the way
        line.kitchen(2, 1);
        line.order(2, 4, 120, 0);
        Due.is("picks, drop a, drop b", 2, line.join(0, 4, 5, 0));
        Due.is("picks, told about", 5, line.join(0, 5, 4, 0));
        Due.is("ends", 40, line.join(0, 5, 4, 2));
        // to 3 from 1, to 2 from 3: dropped at 3 as the other one is picked; all alike but by rank
        Due.is("a whole, then b", 0, line.join(0, 4, 2, 0));
        Due.is("ends", 40, line.join(0, 4, 2, 2));

        BagRiders x = new BagRiders();
        x.road(0, 1, 10);
        x.road(1, 2, 10);
        x.road(2, 3, 10);
        x.kitchen(0, 1);
        x.kitchen(1, 1);
        x.rider(0, 0);
        x.order(0, 3, 120, 0);
        x.order(1, 2, 120, 0);
        Due.is("pick a, pick b, drop b, drop a", 3, x.join(0, 0, 1, 0));
        Due.is("ends", 31, x.join(0, 0, 1, 2));
        Due.is("pick b, pick a, drop a, drop b", 4, x.join(0, 1, 0, 0));
        // least LATE counts ahead of the end
        x.order(0, 3, 10, 0);
        x.order(1, 0, 10, 0);
        // 2 to 3 placed now: a whole first: drop 31, late 21; then 1 at 51, 0 at 61, late 51: 72
        // b whole first: 10, 20 late 10; pick a 20, drop 50 late 40: 50
        // pick a 1, b 11, drop a 31 late 21, drop b 61 late 51: 72
        // pick a 1, b 11, drop b 21 late 11, drop a 51 late 41: 52
        Due.is("least late", 1, x.join(0, 2, 3, 0));
        Due.is("late together", 50, x.join(0, 2, 3, 1));
        Due.is("ends", 50, x.join(0, 2, 3, 2));
    }

    private static void joinedFindings() {
        BagRiders x = new BagRiders();
        x.road(0, 1, 10);
        x.kitchen(0, 1);
        x.kitchen(8, 1);
        x.rider(2, 0);
        x.order(0, 1, 30, 0);
        x.order(0, 0, 30, 0);
        x.order(1, 0, 30, 0);
        Due.is("one and the same", Due.BEYOND, x.join(0, 0, 0, 0));
        Due.is("what 5", Due.BEYOND, x.join(0, 0, 1, 5));
        Due.is("what -1", Due.BEYOND, x.join(0, 0, 1, -1));
        Due.is("rider 1", Due.BEYOND, x.join(1, 0, 1, 0));
        Due.is("order 3", Due.BEYOND, x.join(0, 0, 3, 0));
        Due.is("order -1", Due.BEYOND, x.join(0, -1, 0, 0));
        Due.is("no way", Due.NONE, x.join(0, 0, 2, 0));
        Due.is("no way for two", Due.NONE, x.giveTwo(0, 2, 0));
        Due.is("giveTwo one and the same", Due.BEYOND, x.giveTwo(0, 1, 1));
        Due.is("giveTwo rider -1", Due.BEYOND, x.giveTwo(-1, 0, 1));
        // a CAR needs 3 for each WAY of 0, too: 3, 6 (b whole), 9 (a picked), 8 more
        Due.is("a car's stops", 17, x.join(0, 0, 1, 2));
        Due.is("which", 1, x.join(0, 0, 1, 0));
        x.callOff(1);
        Due.is("one called off", Due.STATE, x.join(0, 0, 1, 0));
        Due.is("one called off", Due.STATE, x.giveTwo(0, 0, 1));
        Due.is("called off and the same", Due.BEYOND, x.join(0, 1, 1, 0));
        x.give(0, 0);
        Due.is("one given", Due.STATE, x.join(0, 0, 2, 0));
    }

    private static void give() {
        BagRiders x = new BagRiders();
        x.road(0, 1, 10);
        x.kitchen(0, 5);
        Due.is("give without any", Due.BEYOND, x.give(0, 0));
        x.rider(0, 1);
        Due.is("give no order", Due.BEYOND, x.give(0, 0));
        x.order(0, 1, 10, 0);
        x.order(0, 7, 10, 0);
        Due.is("give to nobody", Due.BEYOND, x.give(1, 0));
        Due.is("give without a way", Due.NONE, x.give(0, 1));
        x.refuse(0, 0);
        Due.is("give although refused", 20, x.give(0, 0));
        Due.is("give again", Due.STATE, x.give(0, 0));
        x.callOff(1);
        Due.is("give one called off", Due.STATE, x.give(0, 1));
        Due.is("waiting", 0, x.count(3));
    }

    private static void giveTwo() {
        BagRiders x = new BagRiders();
        x.road(0, 1, 10);
        x.road(1, 2, 10);
        x.road(2, 3, 10);
        x.kitchen(0, 1);
        x.kitchen(1, 1);
        x.rider(0, 0);
        x.minutes(5);
        x.order(0, 3, 30, 0);
        x.order(1, 2, 10, 0);
        x.force(1, Due.text(x, "1000*w+100*l+10*r+h+d"));
        // picks at 6 and 16, drops at 26 (1: late 11) and 36 (0: late 1)
        Due.is("giveTwo", 36, x.giveTwo(0, 0, 1));
        Due.is("pick of 0", 6, x.orderOf(0, 6));
        Due.is("drop of 0", 36, x.orderOf(0, 7));
        Due.is("late of 0", 1, x.orderOf(0, 8));
        Due.is("pick of 1", 16, x.orderOf(1, 6));
        Due.is("drop of 1", 26, x.orderOf(1, 7));
        Due.is("late of 1", 11, x.orderOf(1, 8));
        Due.is("pay of 0", 1000 + 100 + 250, x.orderOf(0, 9));
        Due.is("pay of 1", 9999, x.orderOf(1, 9));
        Due.is("where", 3, x.riderOf(0, 1));
        Due.is("free", 36, x.riderOf(0, 2));
        Due.is("given", 2, x.riderOf(0, 3));
        Due.is("engaged", 31, x.riderOf(0, 4));
        Due.is("both have it", 0, x.orderOf(0, 5) + x.orderOf(1, 5));
        Due.is("giveTwo again", Due.STATE, x.giveTwo(0, 0, 1));
    }
}
