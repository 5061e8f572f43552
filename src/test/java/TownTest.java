/** Promises 1 to 5. */
public final class TownTest {
    public static void main(String[] args) {
        aNewObject();
        crossings();
        roads();
        ways();
        minutes();
        Due.end();
    }

    private static void aNewObject() {
        BagRiders x = new BagRiders();
        for (int what = 0; what <= 6; what++) {
            Due.is("count(" + what + ")", 0, x.count(what));
        }
        Due.is("status(-1)", 0, x.status(-1));
        for (int c = 0; c < 16; c++) {
            Due.is("crossing height", 0, x.crossing(c, 0, 0));
            Due.is("crossing zone", 0, x.crossing(c, 1, 0));
            Due.is("way to itself", 0, x.way(c, c));
            Due.is("way", Due.NONE, x.way(c, (c + 1) % 16));
        }
        Due.is("law", 0, x.law(0));
        Due.is("force rule", -1, x.force(0, -1));
        Due.is("force pay", -1, x.force(1, -1));
        Due.is("tear", 0, x.tear());
        Due.is("undo", Due.NONE, x.undo());
        Due.is("wipe", 0, x.wipe());
        for (int s = 0; s < 4; s++) {
            Due.is("write", Due.MISSING, x.write(s, 0, 0));
        }
        for (int spot = 0; spot < 10; spot++) {
            Due.is("as", Due.MISSING, x.as(spot, 0));
        }
    }

    private static void crossings() {
        BagRiders x = new BagRiders();
        Due.is("crossing(15, 0, 9)", 0, x.crossing(15, 0, 9));
        Due.is("crossing(15, 0, 4)", 9, x.crossing(15, 0, 4));
        Due.is("crossing(15, 1, 3)", 0, x.crossing(15, 1, 3));
        Due.is("crossing(15, 1, 0)", 3, x.crossing(15, 1, 0));
        Due.is("crossing(15, 0, 4) again", 4, x.crossing(15, 0, 4));
        Due.is("crossing(-1, 0, 0)", Due.BEYOND, x.crossing(-1, 0, 0));
        Due.is("crossing(16, 0, 0)", Due.BEYOND, x.crossing(16, 0, 0));
        Due.is("crossing(0, -1, 0)", Due.BEYOND, x.crossing(0, -1, 0));
        Due.is("crossing(0, 2, 0)", Due.BEYOND, x.crossing(0, 2, 0));
        Due.is("crossing(0, 0, -1)", Due.BEYOND, x.crossing(0, 0, -1));
        Due.is("crossing(0, 0, 10)", Due.BEYOND, x.crossing(0, 0, 10));
        Due.is("crossing(0, 1, 4)", Due.BEYOND, x.crossing(0, 1, 4));
        Due.is("crossing(0, 1, -1)", Due.BEYOND, x.crossing(0, 1, -1));
        Due.is("crossing(MIN, MIN, MIN)", Due.BEYOND, x.crossing(
                Integer.MIN_VALUE, Integer.MIN_VALUE, Integer.MIN_VALUE));
        Due.is("crossing(0, 0, 0) untouched", 0, x.crossing(0, 0, 0));
    }

    private static void roads() {
        BagRiders x = new BagRiders();
        Due.is("road(0, 15, 60)", 60, x.road(0, 15, 60));
        Due.is("road(15, 0, 1)", 1, x.road(15, 0, 1));
        Due.is("road(0, 15, 30)", 1, x.road(0, 15, 30));
        Due.is("way(15, 0)", 1, x.way(15, 0));
        Due.is("road(0, 0, 5)", Due.BEYOND, x.road(0, 0, 5));
        Due.is("road(0, 1, 0)", Due.BEYOND, x.road(0, 1, 0));
        Due.is("road(0, 1, 61)", Due.BEYOND, x.road(0, 1, 61));
        Due.is("road(-1, 1, 5)", Due.BEYOND, x.road(-1, 1, 5));
        Due.is("road(0, 16, 5)", Due.BEYOND, x.road(0, 16, 5));
        Due.is("way(0, 1) without", Due.NONE, x.way(0, 1));
    }

    private static void ways() {
        BagRiders x = new BagRiders();
        x.road(0, 1, 10);
        x.road(1, 2, 10);
        x.road(0, 2, 21);
        Due.is("way over two roads", 20, x.way(0, 2));
        // 1 is a hill: up to it costs 9 more, down from it nothing
        x.crossing(1, 0, 9);
        Due.is("way up", 19, x.way(0, 1));
        Due.is("way down", 10, x.way(1, 0));
        Due.is("way around the hill", 21, x.way(0, 2));
        x.crossing(2, 0, 9);
        Due.is("way(0, 2) up either way", 29, x.way(0, 2));
        x.crossing(2, 0, 0);
        x.crossing(1, 0, 0);
        Due.is("way once the hill is gone", 20, x.way(0, 2));
        // each ROAD that goes up counts, not the whole WAY's height
        x.crossing(1, 0, 1);
        x.crossing(2, 0, 1);
        Due.is("up by one over either", 21, x.way(0, 2));
        Due.is("way(2, 0)", 20, x.way(2, 0));
        Due.is("way(16, 0)", Due.BEYOND, x.way(16, 0));
        Due.is("way(0, -1)", Due.BEYOND, x.way(0, -1));
        Due.is("way(0, 3)", Due.NONE, x.way(0, 3));
        BagRiders chain = new BagRiders();
        for (int c = 0; c < 15; c++) {
            chain.road(c, c + 1, 60);
            chain.crossing(c, 0, c % 2 == 0 ? 0 : 9);
        }
        Due.is("the longest chain", 15 * 60 + 7 * 9, chain.way(0, 15));
        Due.is("and back", 15 * 60 + 7 * 9, chain.way(15, 0));
    }

    private static void minutes() {
        BagRiders x = new BagRiders();
        Due.is("minutes(0)", Due.BEYOND, x.minutes(0));
        Due.is("minutes(-5)", Due.BEYOND, x.minutes(-5));
        Due.is("minutes(601)", Due.BEYOND, x.minutes(601));
        Due.is("minutes(1)", 1, x.minutes(1));
        Due.is("minutes(600)", 601, x.minutes(600));
        Due.is("minutes(600)", 1201, x.minutes(600));
        Due.is("minutes(239)", Due.STATE, x.minutes(239));
        Due.is("minutes(601) late", Due.BEYOND, x.minutes(601));
        Due.is("minutes(238)", 1439, x.minutes(238));
        Due.is("minutes(1) at the end", Due.STATE, x.minutes(1));
        Due.is("count(0)", 1439, x.count(0));
    }
}
