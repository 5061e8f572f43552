/** Promises 37 to 43. */
public final class SheetsTest {
    public static void main(String[] args) {
        spots();
        kinds();
        sheet();
        write();
        copy();
        roads();
        judge();
        Due.end();
    }

    private static void spots() {
        BagRiders x = new BagRiders();
        Due.is("hold no rider", Due.BEYOND, x.hold(0, 0));
        x.rider(0, 0);
        Due.is("hold(10, 0)", Due.BEYOND, x.hold(10, 0));
        Due.is("hold(-1, 0)", Due.BEYOND, x.hold(-1, 0));
        Due.is("hold(0, 1)", Due.BEYOND, x.hold(0, 1));
        Due.is("hold(0, -2)", Due.BEYOND, x.hold(0, -2));
        Due.is("as, nothing held", Due.MISSING, x.as(0, 0));
        Due.is("hold(9, 0)", 1, x.hold(9, 0));
        Due.is("as(9, 0)", 0, x.as(9, 0));
        Due.is("as(9, 7)", Due.BEYOND, x.as(9, 7));
        Due.is("as(9, -1)", Due.BEYOND, x.as(9, -1));
        Due.is("as(10, 0)", Due.BEYOND, x.as(10, 0));
        Due.is("as(-1, 0)", Due.BEYOND, x.as(-1, 0));
        Due.is("as(0, 7), nothing held", Due.BEYOND, x.as(0, 7));
        Due.is("hold(9, -1)", 1, x.hold(9, -1));
        Due.is("as(9, 0)", Due.MISSING, x.as(9, 0));
    }

    private static void kinds() {
        String[] above = {"0", "10", "20", "30", "410", "510", "630"};
        BagRiders x = new BagRiders();
        for (int kind = 0; kind < 7; kind++) {
            x.rider(kind, 0);
            x.hold(kind, kind);
            for (int asked = 0; asked < 7; asked++) {
                boolean is = above[kind].indexOf('0' + asked) >= 0;
                Due.is(kind + " as " + asked, is ? kind : Due.KIND, x.as(kind, asked));
            }
        }
    }

    private static void sheet() {
        BagRiders x = new BagRiders();
        Due.is("sheet(4, ..)", Due.BEYOND, x.sheet(4, 8, 1));
        Due.is("sheet(-1, ..)", Due.BEYOND, x.sheet(-1, 8, 1));
        Due.is("bits 7", Due.BEYOND, x.sheet(0, 7, 1));
        Due.is("bits 64", Due.BEYOND, x.sheet(0, 64, 1));
        Due.is("bits -8", Due.BEYOND, x.sheet(0, -8, 1));
        Due.is("bits 7 and n -1", Due.BEYOND, x.sheet(0, 7, -1));
        Due.is("n -1", Due.SIZE, x.sheet(0, 8, -1));
        Due.is("n 61", Due.BEYOND, x.sheet(0, 8, 61));
        Due.is("bits 0, n -1", Due.SIZE, x.sheet(0, 0, -1));
        Due.is("bits 0, n 61", Due.BEYOND, x.sheet(0, 0, 61));
        Due.is("bits 0, n 60", 0, x.sheet(0, 0, 60));
        Due.is("still missing", Due.MISSING, x.roads(0));
        Due.is("n 60", 60, x.sheet(0, 16, 60));
        Due.is("the last number", 1, x.write(0, 59, 1));
        Due.is("n 0", 0, x.sheet(1, 32, 0));
        Due.is("nothing in it", Due.BEYOND, x.write(1, 0, 1));
        Due.is("no road in it", 0, x.roads(1));
        Due.is("n 3", 3, x.sheet(0, 8, 3));
        x.write(0, 0, 1);
        x.write(0, 1, 2);
        x.write(0, 2, 3);
        Due.is("n 3 again, all 0", 3, x.sheet(0, 8, 3));
        Due.is("no road of zeros", 0, x.roads(0));
        Due.is("n -1 leaves it", Due.SIZE, x.sheet(0, 0, -1));
        Due.is("as it was", 0, x.roads(0));
        Due.is("bits 0", 0, x.sheet(0, 0, 5));
        Due.is("missing then", Due.MISSING, x.write(0, 0, 1));
    }

    private static void write() {
        BagRiders x = new BagRiders();
        Due.is("write(4, ..)", Due.BEYOND, x.write(4, 0, 0));
        Due.is("write(-1, ..)", Due.BEYOND, x.write(-1, 0, 0));
        Due.is("write, missing", Due.MISSING, x.write(0, 99, 0));
        x.sheet(0, 8, 3);
        Due.is("write(0, 3, 0)", Due.BEYOND, x.write(0, 3, 0));
        Due.is("write(0, -1, 0)", Due.BEYOND, x.write(0, -1, 0));
        // 256 + 5 is 5 in 8 bits, and 253 is -3
        x.write(0, 0, 256);
        x.write(0, 1, 257);
        x.write(0, 2, 256 + 5);
        Due.is("roads of 8 bits", 1, x.roads(0));
        Due.is("way", 5, x.way(0, 1));
        x.write(0, 2, 253);
        Due.is("a sign in 8 bits", 0, x.roads(0));
        x.sheet(1, 16, 3);
        x.write(1, 0, 0x10002);
        x.write(1, 1, 0x7fff0003);
        x.write(1, 2, 0x50009);
        Due.is("roads of 16 bits", 1, x.roads(1));
        Due.is("way", 9, x.way(2, 3));
        x.write(1, 0, 0x8000);
        Due.is("a sign in 16 bits", 0, x.roads(1));
        x.sheet(2, 32, 3);
        x.write(2, 0, 4);
        x.write(2, 1, 5);
        x.write(2, 2, 0x10003);
        Due.is("32 bits are whole", 0, x.roads(2));
        x.write(2, 2, 3);
        Due.is("roads of 32 bits", 1, x.roads(2));
    }

    private static void copy() {
        BagRiders x = new BagRiders();
        Due.is("copy from 4", Due.BEYOND, x.copy(4, 0, 0, 0, 0));
        Due.is("copy to -1", Due.BEYOND, x.copy(0, 0, -1, 0, 0));
        Due.is("copy, both missing", Due.MISSING, x.copy(0, 0, 1, 0, 0));
        x.sheet(0, 8, 6);
        Due.is("copy, the other missing", Due.MISSING, x.copy(0, -1, 1, 0, 0));
        Due.is("copy, the one missing", Due.MISSING, x.copy(1, 0, 0, 0, 0));
        x.sheet(1, 16, 6);
        Due.is("copy, other bits", Due.KIND, x.copy(0, -1, 1, 0, 99));
        x.sheet(1, 8, 4);
        Due.is("from -1", Due.BEYOND, x.copy(0, -1, 1, 0, 1));
        Due.is("to -1", Due.BEYOND, x.copy(0, 0, 1, -1, 1));
        Due.is("n -1", Due.BEYOND, x.copy(0, 0, 1, 0, -1));
        Due.is("n 5 to 4", Due.BEYOND, x.copy(0, 0, 1, 0, 5));
        Due.is("n 4 from 3 of 6", Due.BEYOND, x.copy(0, 3, 1, 0, 4));
        Due.is("n 2 to 3 of 4", Due.BEYOND, x.copy(0, 0, 1, 3, 2));
        Due.is("from MAX", Due.BEYOND, x.copy(0, Integer.MAX_VALUE, 1, 0, 1));
        Due.is("n MAX", Due.BEYOND, x.copy(0, 1, 1, 1, Integer.MAX_VALUE));
        Due.is("n 0", 0, x.copy(0, 6, 1, 4, 0));
        Due.is("n 0 from 7", Due.BEYOND, x.copy(0, 7, 1, 4, 0));
        // within one sheet, onto itself: 1 2 3 0 0 0 becomes 1 1 2 3 0 0, read as roads of a copy
        x.write(0, 0, 1);
        x.write(0, 1, 2);
        x.write(0, 2, 3);
        Due.is("copy on by one", 3, x.copy(0, 0, 0, 1, 3));
        Due.is("copy to another", 3, x.copy(0, 1, 1, 0, 3));
        Due.is("roads", 1, x.roads(1));
        Due.is("way(1, 2)", 3, x.way(1, 2));
        Due.is("copy back by one", 3, x.copy(0, 1, 0, 0, 3));
        // 1 2 3 3 0 0: one road, then none
        Due.is("roads", 1, x.roads(0));
        Due.is("copy whole", 4, x.copy(0, 0, 1, 0, 4));
    }

    private static void roads() {
        BagRiders x = new BagRiders();
        Due.is("roads(4)", Due.BEYOND, x.roads(4));
        Due.is("roads(-1)", Due.BEYOND, x.roads(-1));
        Due.is("roads, missing", Due.MISSING, x.roads(0));
        int[] rows = {0, 1, 60, 1, 2, 1, 2, 1, 9, 2, 2, 5, 3, 4, 5};
        x.sheet(0, 8, rows.length);
        for (int i = 0; i < rows.length; i++) {
            x.write(0, i, rows[i]);
        }
        Due.is("roads up to 2 - 2", 3, x.roads(0));
        Due.is("way(0, 2)", 61, x.way(0, 2));
        Due.is("none behind it", Due.NONE, x.way(3, 4));
        x.sheet(0, 8, 5);
        x.write(0, 0, 5);
        x.write(0, 1, 6);
        x.write(0, 2, 7);
        x.write(0, 3, 6);
        x.write(0, 4, 7);
        Due.is("the last isn't whole", 1, x.roads(0));
        Due.is("way(5, 7)", Due.NONE, x.way(5, 7));
        x.write(0, 2, 61);
        Due.is("61 minutes", 0, x.roads(0));
        x.write(0, 2, 2);
        x.write(0, 1, 16);
        Due.is("crossing 16", 0, x.roads(0));
        Due.is("findings", 2, x.status(0));
        x.sheet(3, 32, 60);
        for (int i = 0; i < 60; i += 3) {
            x.write(3, i, 10);
            x.write(3, i + 1, 11);
            x.write(3, i + 2, 60 - i);
        }
        Due.is("twenty roads", 20, x.roads(3));
        Due.is("the least counts", 3, x.way(10, 11));
    }

    private static void judge() {
        BagRiders x = new BagRiders();
        Due.is("judge(4, ..)", Due.BEYOND, x.judge(4, 0));
        Due.is("judge, missing, no text", Due.MISSING, x.judge(0, 0));
        x.sheet(0, 8, 0);
        Due.is("judge, no text", Due.BEYOND, x.judge(0, 0));
        int fair = Due.text(x, "0-h");
        Due.is("judge(0, -1)", Due.BEYOND, x.judge(0, -1));
        Due.is("nothing at all is right", 0, x.judge(0, fair));
        x.kitchen(0, 1);
        x.rider(0, 0);
        x.rider(0, 0);
        x.order(0, 0, 10, 0);
        x.order(0, 9, 10, 0);
        x.order(0, 0, 10, 0);
        Due.is("too few", 1, x.judge(0, fair));
        x.sheet(0, 8, 3);
        // due: 0, -1, 1
        Due.is("one is right", 2, x.judge(0, fair));
        x.write(0, 1, -1);
        Due.is("two are right", 3, x.judge(0, fair));
        x.write(0, 2, 1);
        Due.is("all are right", 0, x.judge(0, fair));
        x.write(0, 0, 1);
        Due.is("none, from the first on", 1, x.judge(0, fair));
        x.write(0, 0, 0);
        x.order(0, 0, 10, 0);
        Due.is("right, but too few", 4, x.judge(0, fair));
        x.sheet(1, 8, 5);
        x.copy(0, 0, 1, 0, 3);
        Due.is("right, but too many", 5, x.judge(1, fair));
        x.callOff(2);
        Due.is("one is called off", 3, x.judge(1, fair));
    }
}
