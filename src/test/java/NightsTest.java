/** Promises 33 to 36. */
public final class NightsTest {
    public static void main(String[] args) {
        zone();
        starves();
        emptyNight();
        night();
        nightByNames();
        comeByThen();
        nightIsApart();
        Due.end();
    }

    private static void zone() {
        BagRiders x = new BagRiders();
        x.crossing(1, 1, 3);
        x.road(0, 1, 10);
        x.kitchen(0, 5);
        x.rider(0, 0);
        x.force(1, Due.text(x, "20"));
        x.order(0, 1, 10, 0);
        x.order(0, 1, 10, 0);
        x.order(0, 1, 10, 0);
        x.order(0, 0, 10, 0);
        x.callOff(2);
        Due.is("waiting in 3", 2, x.zone(3, 0));
        Due.is("waiting in 0", 1, x.zone(0, 0));
        Due.is("given in 3", 0, x.zone(3, 1));
        x.give(0, 0);
        x.give(0, 1);
        // drops at 15 and 35: late 5 and 25
        Due.is("waiting in 3", 0, x.zone(3, 0));
        Due.is("given in 3", 2, x.zone(3, 1));
        Due.is("late in 3", 30, x.zone(3, 2));
        Due.is("pay in 3", 40, x.zone(3, 3));
        x.rain(5, 5, 50);
        Due.is("pay in 3 with rain", 50, x.zone(3, 3));
        Due.is("nothing in 1", 0, x.zone(1, 0) + x.zone(1, 1) + x.zone(1, 2) + x.zone(1, 3));
        Due.is("zone 4", Due.BEYOND, x.zone(4, 0));
        Due.is("zone -1", Due.BEYOND, x.zone(-1, 0));
        Due.is("what 4", Due.BEYOND, x.zone(0, 4));
        Due.is("what -1", Due.BEYOND, x.zone(0, -1));
        x.crossing(1, 1, 2);
        Due.is("given in 2, as the crossing moved", 2, x.zone(2, 1));
        Due.is("given in 3", 0, x.zone(3, 1));
    }

    private static void starves() {
        BagRiders x = new BagRiders();
        Due.is("starves(-1)", Due.BEYOND, x.starves(-1));
        Due.is("starves(1440)", Due.BEYOND, x.starves(1440));
        Due.is("starves(0) without any", Due.NONE, x.starves(0));
        x.crossing(1, 1, 1);
        x.crossing(2, 1, 2);
        x.kitchen(0, 5);
        x.rider(0, 2);
        x.order(0, 2, 10, 0);
        Due.is("placed just now", Due.NONE, x.starves(0));
        x.minutes(1);
        Due.is("placed for 1", 2, x.starves(0));
        Due.is("not for more than 1", Due.NONE, x.starves(1));
        x.order(0, 1, 10, 0);
        x.minutes(1);
        Due.is("of several the least", 1, x.starves(0));
        Due.is("for more than 1", 2, x.starves(1));
        x.order(0, 2, 10, 0);
        x.minutes(1);
        Due.is("the most", 2, x.starves(0));
        x.callOff(2);
        Due.is("called off", 1, x.starves(0));
        x.order(0, 0, 10, 0);
        x.minutes(1);
        Due.is("zone 0, of several the least", 0, x.starves(0));
        x.callOff(3);
        x.callOff(0);
        x.callOff(1);
        Due.is("none left", Due.NONE, x.starves(0));
    }

    private static void emptyNight() {
        BagRiders x = new BagRiders();
        Due.is("night without a text", Due.BEYOND, x.night(0, 0));
        Due.text(x, "0");
        for (int what = 0; what <= 4; what++) {
            Due.is("empty night " + what, 0, x.night(0, what));
        }
        Due.is("what 5", Due.BEYOND, x.night(0, 5));
        Due.is("what -1", Due.BEYOND, x.night(0, -1));
        Due.is("text 1", Due.BEYOND, x.night(1, 0));
        Due.is("whom of none", Due.BEYOND, x.whom(0, 0));
        x.kitchen(0, 1);
        x.order(0, 0, 10, 0);
        Due.is("whom without riders", Due.NONE, x.whom(0, 0));
        Due.is("fewest without riders", 0, x.night(0, 3));
        Due.is("whom text 1", Due.BEYOND, x.whom(1, 0));
        Due.is("whom order -1", Due.BEYOND, x.whom(0, -1));
    }

    private static void night() {
        BagRiders x = new BagRiders();
        x.road(0, 1, 10);
        x.kitchen(0, 1);
        x.rider(0, 0);
        x.rider(0, 1);
        x.rider(0, 9);
        x.order(0, 1, 10, 0);
        x.order(0, 1, 10, 0);
        x.order(0, 9, 10, 0);
        x.order(0, 0, 10, 0);
        x.callOff(3);
        x.order(0, 1, 10, 0);
        int near = Due.text(x, "-d");
        int one = Due.text(x, "-n");
        // near: 0 to rider 0 (1, 11), 1: both at 1 then: to rider 0 from 11: 21, 31; 4 likewise
        Due.is("given", 3, x.night(near, 0));
        Due.is("late", 1 + 21 + 41, x.night(near, 1));
        Due.is("most", 3, x.night(near, 2));
        Due.is("fewest", 0, x.night(near, 3));
        Due.is("last end", 51, x.night(near, 4));
        Due.is("whom 0", 0, x.whom(near, 0));
        Due.is("whom without a way", Due.NONE, x.whom(near, 2));
        Due.is("whom of one called off", Due.NONE, x.whom(near, 3));
        Due.is("whom 4", 0, x.whom(near, 4));
        Due.is("all to the first", 3, x.night(one, 2));
        int fair = Due.text(x, "0-h");
        Due.is("whom 0, fair", 0, x.whom(fair, 0));
        Due.is("whom 1, fair", 1, x.whom(fair, 1));
        Due.is("whom 4, fair, the least number", 0, x.whom(fair, 4));
        Due.is("most, fair", 2, x.night(fair, 2));
        Due.is("last end, fair", 31, x.night(fair, 4));
        int late = Due.text(x, "0-l");
        // 0: rider 0 (late 1); 1: rider 1 there at 10, 20 (10) rather than 31 (21);
        // 4: rider 0 from 11: 31 (21), rider 1 from 20: 40 (30)
        Due.is("whom 1, by lateness", 1, x.whom(late, 1));
        Due.is("whom 4, by lateness", 0, x.whom(late, 4));
        Due.is("late, by lateness", 1 + 10 + 21, x.night(late, 1));
    }

    private static void nightByNames() {
        BagRiders x = new BagRiders();
        x.road(0, 1, 10);
        x.kitchen(0, 1);
        x.rider(0, 0);
        x.rider(0, 1);
        x.order(0, 1, 10, 0);
        x.minutes(20);
        x.order(0, 1, 10, 0);
        // r is 25 and w is 0 in a NIGHT, whatever they are now
        x.give(0, 0);
        x.minutes(100);
        int rated = Due.text(x, "(r=25)*(w=0)*n");
        int byHand = Due.text(x, "h*10-n");
        Due.is("whom 0 by r and w", 1, x.whom(rated, 0));
        Due.is("whom 1 by r and w", 1, x.whom(rated, 1));
        Due.is("whom 0 by h", 0, x.whom(byHand, 0));
        Due.is("whom 1 by h", 0, x.whom(byHand, 1));
        // rider 0: 0 to 11, at 1; the second placed at 20: there at 30, 40
        Due.is("last end by h", 40, x.night(byHand, 4));
    }

    private static void comeByThen() {
        BagRiders x = new BagRiders();
        x.kitchen(0, 1);
        x.order(0, 0, 10, 0);
        x.minutes(5);
        x.order(0, 0, 10, 0);
        x.rider(0, 0);
        x.minutes(5);
        x.rider(0, 0);
        x.order(0, 0, 10, 0);
        int last = Due.text(x, "n");
        Due.is("placed ahead of all riders", Due.NONE, x.whom(last, 0));
        Due.is("come in that minute", 0, x.whom(last, 1));
        Due.is("come later", 1, x.whom(last, 2));
        Due.is("fewest", 1, x.night(last, 3));
        x.minutes(5);
        x.rider(0, 0);
        Due.is("fewest of all", 0, x.night(last, 3));
        Due.is("given", 2, x.night(last, 0));
    }

    private static void nightIsApart() {
        BagRiders x = new BagRiders();
        x.road(0, 1, 10);
        x.kitchen(0, 1);
        x.rider(0, 0);
        x.rider(0, 0);
        int first = Due.text(x, "0-n");
        x.order(0, 1, 30, 0);
        x.order(0, 1, 30, 0);
        x.refuse(0, 0);
        x.give(1, 1);
        Due.is("refusals count nothing", 0, x.whom(first, 0));
        Due.is("as if none was given", 0, x.whom(first, 1));
        Due.is("free or not", 31, x.night(first, 4));
        Due.is("rider where it was", 0, x.riderOf(0, 1));
        Due.is("rider free as it was", 0, x.riderOf(0, 2));
        Due.is("given as it was", 1, x.orderOf(1, 5));
        Due.is("waiting as it was", 1, x.count(3));
        x.minutes(600);
        x.minutes(600);
        x.minutes(220);
        // placed at 1420: rider 0, at crossing 1, would drop at 1440; rider 1 drops one at 1431
        x.order(0, 1, 30, 0);
        x.order(0, 1, 30, 0);
        x.order(0, 1, 30, 0);
        Due.is("given by the end of the day", 3, x.night(first, 0));
        Due.is("last end", 1431, x.night(first, 4));
        Due.is("the second rider takes one", 1, x.whom(first, 2));
        Due.is("none for the others", Due.NONE, x.whom(first, 3));
    }
}
