import java.util.ArrayList;
import java.util.Arrays;
import java.util.List;
import java.util.TreeSet;

/**
 * The document once more, told in another way than BagRiders tells it: nothing is kept that can
 * be worked out from what was told, TEXTS are worked out from their letters, WAYS by trying.
 */
final class Model {
    private static final int[][] WAYS = {
        {0, 1, 2, 3}, {2, 3, 0, 1}, {0, 2, 1, 3}, {0, 2, 3, 1}, {2, 0, 1, 3}, {2, 0, 3, 1}
    };

    /** What an image keeps. */
    private static final class Kept {
        int now;
        int rule = -1;
        int pay = -1;
        int law;
        int[][] cross = new int[16][2];
        List<int[]> roads = new ArrayList<>();
        List<int[]> kitchens = new ArrayList<>();
        // kitchen, to, placed, promised, delay, state, rider, pick, drop, pay, begin, end
        List<int[]> orders = new ArrayList<>();
        // kind, came to, came on, at, free
        List<int[]> riders = new ArrayList<>();
        List<int[]> refusals = new ArrayList<>();
        List<int[]> rains = new ArrayList<>();
        List<int[]> apps = new ArrayList<>();
        List<int[]> seen = new ArrayList<>();
        List<String> texts = new ArrayList<>();
        int[] spots = new int[10];

        Kept() {
            Arrays.fill(spots, -1);
        }

        static List<int[]> twin(List<int[]> rows) {
            List<int[]> twin = new ArrayList<>();
            for (int[] row : rows) {
                twin.add(row.clone());
            }
            return twin;
        }

        Kept twin() {
            Kept k = new Kept();
            k.now = now;
            k.rule = rule;
            k.pay = pay;
            k.law = law;
            for (int c = 0; c < 16; c++) {
                k.cross[c] = cross[c].clone();
            }
            k.roads = twin(roads);
            k.kitchens = twin(kitchens);
            k.orders = twin(orders);
            k.riders = twin(riders);
            k.refusals = twin(refusals);
            k.rains = twin(rains);
            k.apps = twin(apps);
            k.seen = twin(seen);
            k.texts = new ArrayList<>(texts);
            k.spots = spots.clone();
            return k;
        }
    }

    private Kept k = new Kept();
    private Kept image = null;
    private String tape = "";
    private final int[][] sheets = new int[4][];
    private final int[] bits = new int[4];
    private final int[] found = new int[7];

    int call(String name, int... a) {
        Integer answer = told(name, a);
        if (answer <= -1000001 && answer >= -1000007 && !name.equals("says")) {
            found[-1000001 - answer]++;
        } else if (name.equals("says") && saysBeyond(a)) {
            found[0]++;
        }
        return answer;
    }

    private boolean saysBeyond(int[] a) {
        return !in(a[0], k.texts) || !in(a[1], k.riders) || !in(a[2], k.orders);
    }

    private static boolean in(int i, List<?> rows) {
        return i >= 0 && i < rows.size();
    }

    private static boolean in(int v, int low, int high) {
        return v >= low && v <= high;
    }

    private static boolean cross(int... cs) {
        return Arrays.stream(cs).allMatch(c -> in(c, 0, 15));
    }

    private static boolean minute(int... ms) {
        return Arrays.stream(ms).allMatch(m -> in(m, 0, 1439));
    }

    private int told(String name, int[] a) {
        switch (name) {
            case "crossing": {
                if (!cross(a[0]) || !in(a[1], 0, 1) || !in(a[2], 0, a[1] == 0 ? 9 : 3)) {
                    return Due.BEYOND;
                }
                int was = k.cross[a[0]][a[1]];
                k.cross[a[0]][a[1]] = a[2];
                return was;
            }
            case "road":
                if (!road(a[0], a[1], a[2])) {
                    return Due.BEYOND;
                }
                k.roads.add(a.clone());
                return k.roads.stream().filter(r -> (r[0] == a[0] && r[1] == a[1])
                        || (r[0] == a[1] && r[1] == a[0])).mapToInt(r -> r[2]).min().getAsInt();
            case "way":
                return !cross(a[0], a[1]) ? Due.BEYOND : way(a[0], a[1]) < 0 ? Due.NONE
                        : way(a[0], a[1]);
            case "minutes":
                if (!in(a[0], 1, 600)) {
                    return Due.BEYOND;
                }
                return k.now + a[0] > 1439 ? Due.STATE : (k.now += a[0]);
            case "kitchen":
                return !cross(a[0]) || !in(a[1], 1, 60) ? Due.BEYOND : put(k.kitchens, 6, a, -1);
            case "order":
                return !in(a[0], k.kitchens) || !cross(a[1]) || !in(a[2], 10, 120)
                        || !in(a[3], 0, 60) ? Due.BEYOND : put(k.orders, 24, new int[] {
                            a[0], a[1], k.now, a[2], a[3], 0, -1, 0, 0, 0, 0, 0}, -1);
            case "orderOf":
                return orderOf(a[0], a[1]);
            case "callOff":
                if (!in(a[0], k.orders)) {
                    return Due.BEYOND;
                }
                if (k.orders.get(a[0])[5] != 0) {
                    return Due.STATE;
                }
                k.orders.get(a[0])[5] = 2;
                return 1;
            case "rider":
                return !in(a[0], 0, 6) || !cross(a[1]) ? Due.BEYOND : put(k.riders, 12,
                        new int[] {a[0], a[1], k.now, a[1], k.now}, -1);
            case "riderOf":
                return riderOf(a[0], a[1]);
            case "goes": {
                if (!in(a[0], k.riders) || !cross(a[1], a[2])) {
                    return Due.BEYOND;
                }
                int leg = goes(k.riders.get(a[0])[0], a[1], a[2]);
                return leg < 0 ? Due.NONE : leg;
            }
            case "trip":
            case "give":
                return one(name, a);
            case "join":
            case "giveTwo":
                return two(name, a);
            case "feed":
                if (!in(a[1], 1, 4)) {
                    return Due.BEYOND;
                }
                if (tape.length() + a[1] > 80) {
                    return Due.FULL;
                }
                for (int i = 4 - a[1]; i < 4; i++) {
                    tape += (char) java.nio.ByteBuffer.allocate(4).putInt(a[0]).get(i);
                }
                tape = latin(tape);
                return tape.length();
            case "wipe": {
                int had = tape.length();
                tape = "";
                return had;
            }
            case "text":
                return text();
            case "force": {
                if (!in(a[0], 0, 1) || (a[1] != -1 && !in(a[1], k.texts))) {
                    return Due.BEYOND;
                }
                int was = a[0] == 0 ? k.rule : k.pay;
                k.rule = a[0] == 0 ? a[1] : k.rule;
                k.pay = a[0] == 1 ? a[1] : k.pay;
                return was;
            }
            default:
                return toldLater(name, a);
        }
    }

    private static String latin(String s) {
        StringBuilder b = new StringBuilder();
        for (char c : s.toCharArray()) {
            b.append((char) (c & 255));
        }
        return b.toString();
    }

    private int toldLater(String name, int[] a) {
        switch (name) {
            case "says":
                return saysBeyond(a) ? Due.BEYOND : new Sum(k.texts.get(a[0]), namesNow(a[1], a[2])).all();
            case "offered":
                if (!in(a[0], k.orders)) {
                    return Due.BEYOND;
                }
                if (k.orders.get(a[0])[5] != 0 || k.rule < 0) {
                    return Due.STATE;
                }
                return offered(a[0]) < 0 ? Due.NONE : offered(a[0]);
            case "refuse":
                if (!in(a[0], k.riders) || !in(a[1], k.orders)) {
                    return Due.BEYOND;
                }
                if (k.orders.get(a[1])[5] != 0 || refused(a[0], a[1])) {
                    return Due.STATE;
                }
                k.refusals.add(a.clone());
                return refusals(a[0]);
            case "offerAll": {
                if (k.rule < 0) {
                    return Due.STATE;
                }
                int n = 0;
                for (int o = 0; o < k.orders.size(); o++) {
                    int r = k.orders.get(o)[5] == 0 ? offered(o) : -1;
                    if (r >= 0) {
                        one("give", new int[] {r, o});
                        n++;
                    }
                }
                return n;
            }
            case "rain":
                return !minute(a[0], a[1]) || a[1] < a[0] || !in(a[2], 1, 99) ? Due.BEYOND
                        : put(k.rains, 6, a, 0);
            case "law": {
                int was = k.law;
                k.law = in(a[0], 0, 999) ? a[0] : k.law;
                return in(a[0], 0, 999) ? was : Due.BEYOND;
            }
            case "app": {
                if (!in(a[0], k.riders) || !minute(a[1], a[2]) || a[2] <= a[1]) {
                    return Due.BEYOND;
                }
                int has = (int) k.apps.stream().filter(p -> p[0] == a[0]).count();
                if (has == 4) {
                    return Due.FULL;
                }
                k.apps.add(a.clone());
                return has + 1;
            }
            case "least": {
                if (!in(a[0], k.riders) || !in(a[1], 0, 1)) {
                    return Due.BEYOND;
                }
                int due = (int) Math.ceil(k.law * (double) counts(a[0]) / 60);
                return a[1] == 0 ? counts(a[0]) : Math.max(0, due - riderOf(a[0], 5));
            }
            case "lacks":
                return !in(a[0], k.orders) || !in(a[1], 0, 2) ? Due.BEYOND
                        : k.orders.get(a[0])[5] != 1 ? Due.NONE : lacks(k.orders.get(a[0]))[a[1]];
            case "ban": {
                if (!in(a[0], k.riders) || !in(a[1], 0, 50) || !in(a[2], 1, 9)) {
                    return Due.BEYOND;
                }
                double mean = given(a[0]).stream().mapToInt(o -> Math.max(0, 50 - lacks(o)[2]))
                        .average().orElse(99);
                return given(a[0]).size() >= a[2] && mean < a[1] ? 1 : 0;
            }
            case "seen":
                return !in(a[0], k.riders) || !cross(a[1]) || !minute(a[2]) ? Due.BEYOND
                        : put(k.seen, 20, a, 0);
            case "doubles":
                return doubles(a[0], a[1]);
            case "zone":
                return zone(a[0], a[1]);
            case "starves":
                return starves(a[0]);
            case "night":
                return !in(a[0], k.texts) || !in(a[1], 0, 4) ? Due.BEYOND : night(a[0])[a[1]];
            case "whom": {
                if (!in(a[0], k.texts) || !in(a[1], k.orders)) {
                    return Due.BEYOND;
                }
                int r = night(a[0])[5 + a[1]];
                return r < 0 ? Due.NONE : r;
            }
            default:
                return toldLast(name, a);
        }
    }

    private int toldLast(String name, int[] a) {
        switch (name) {
            case "hold":
                if (!in(a[0], 0, 9) || (a[1] != -1 && !in(a[1], k.riders))) {
                    return Due.BEYOND;
                }
                k.spots[a[0]] = a[1];
                return 1;
            case "as": {
                if (!in(a[0], 0, 9) || !in(a[1], 0, 6)) {
                    return Due.BEYOND;
                }
                int r = k.spots[a[0]];
                String[] of = {"0", "01", "02", "03", "014", "015", "036"};
                return r < 0 ? Due.MISSING
                        : of[k.riders.get(r)[0]].contains("" + a[1]) ? r : Due.KIND;
            }
            case "sheet":
                if (!in(a[0], 0, 3) || !Arrays.asList(0, 8, 16, 32).contains(a[1])) {
                    return Due.BEYOND;
                }
                if (a[2] < 0) {
                    return Due.SIZE;
                }
                if (a[2] > 60) {
                    return Due.BEYOND;
                }
                bits[a[0]] = a[1];
                sheets[a[0]] = a[1] == 0 ? null : new int[a[2]];
                return a[1] == 0 ? 0 : a[2];
            case "write":
                if (!in(a[0], 0, 3)) {
                    return Due.BEYOND;
                }
                if (sheets[a[0]] == null) {
                    return Due.MISSING;
                }
                if (!in(a[1], 0, sheets[a[0]].length - 1)) {
                    return Due.BEYOND;
                }
                sheets[a[0]][a[1]] = a[2] << (32 - bits[a[0]]) >> (32 - bits[a[0]]);
                return 1;
            case "copy":
                return copy(a[0], a[1], a[2], a[3], a[4]);
            case "roads": {
                if (!in(a[0], 0, 3)) {
                    return Due.BEYOND;
                }
                int[] s = sheets[a[0]];
                if (s == null) {
                    return Due.MISSING;
                }
                int n = 0;
                while (3 * n + 3 <= s.length && road(s[3 * n], s[3 * n + 1], s[3 * n + 2])) {
                    k.roads.add(Arrays.copyOfRange(s, 3 * n, 3 * n + 3));
                    n++;
                }
                return n;
            }
            case "judge": {
                if (!in(a[0], 0, 3)) {
                    return Due.BEYOND;
                }
                if (sheets[a[0]] == null) {
                    return Due.MISSING;
                }
                if (!in(a[1], k.texts)) {
                    return Due.BEYOND;
                }
                int[] night = night(a[1]);
                int at = Arrays.mismatch(sheets[a[0]], Arrays.copyOfRange(night, 5, night.length));
                return at + 1;
            }
            case "image":
                image = k.twin();
                return 1;
            case "undo":
                k = image == null ? k : image.twin();
                return image == null ? Due.NONE : k.now;
            case "tear": {
                int was = image == null ? 0 : 1;
                image = null;
                return was;
            }
            case "count": {
                int waiting = (int) k.orders.stream().filter(o -> o[5] == 0).count();
                int[] all = {k.now, k.kitchens.size(), k.orders.size(), waiting, k.riders.size(),
                    k.texts.size(), tape.length()};
                return in(a[0], 0, 6) ? all[a[0]] : Due.BEYOND;
            }
            case "status":
                return a[0] == -1 ? Arrays.stream(found).sum() : in(a[0], 0, 6) ? found[a[0]]
                        : Due.BEYOND;
            default:
                throw new IllegalArgumentException(name);
        }
    }

    private static int put(List<int[]> rows, int most, int[] row, int add) {
        if (rows.size() == most) {
            return Due.FULL;
        }
        rows.add(row.clone());
        return rows.size() + add;
    }

    private static boolean road(int a, int b, int minutes) {
        return cross(a, b) && a != b && in(minutes, 1, 60);
    }

    /** By trying all ROADS again and again; -1 without a WAY. */
    private int way(int a, int b) {
        int[] far = new int[16];
        Arrays.fill(far, 999999);
        far[a] = 0;
        for (int turn = 0; turn < 16; turn++) {
            for (int[] r : k.roads) {
                int up = Math.max(0, k.cross[r[1]][0] - k.cross[r[0]][0]);
                int down = Math.max(0, k.cross[r[0]][0] - k.cross[r[1]][0]);
                far[r[1]] = Math.min(far[r[1]], far[r[0]] + r[2] + up);
                far[r[0]] = Math.min(far[r[0]], far[r[1]] + r[2] + down);
            }
        }
        return far[b] >= 999999 ? -1 : far[b];
    }

    private int goes(int kind, int a, int b) {
        int w = way(a, b);
        if (w < 0) {
            return -1;
        }
        int bike = (int) Math.ceil(w * 0.75);
        int[] legs = {w, bike, (int) Math.ceil(w / 2.0) + 3, w + w,
            w == 0 ? 0 : bike == 1 ? 1 : bike - 1, w, w == 0 ? 0 : w + w + 2};
        return legs[kind];
    }

    private int ready(int[] o) {
        return o[2] + k.kitchens.get(o[0])[1] + o[4];
    }

    private static int late(int[] o, int drop) {
        return drop > o[2] + o[3] ? drop - o[2] - o[3] : 0;
    }

    /** MINUTES of the stops along a way, then its end and where; null if it can't be. */
    private int[] along(int kind, int at, int begin, int[] one, int[] other, int[] stops) {
        int[] times = new int[6];
        int now = begin;
        for (int stop : stops) {
            int[] o = stop < 2 ? one : other;
            int to = stop % 2 == 0 ? k.kitchens.get(o[0])[0] : o[1];
            int leg = goes(kind, at, to);
            if (leg < 0) {
                return null;
            }
            now += leg;
            now = stop % 2 == 0 && now < ready(o) ? ready(o) : now;
            times[stop] = now;
            at = to;
        }
        times[4] = now;
        times[5] = at;
        return now > 1439 ? null : times;
    }

    private int[] alone(int r, int o) {
        int[] rider = k.riders.get(r);
        int[] order = k.orders.get(o);
        return along(rider[0], rider[3], Math.max(k.now, rider[4]), order, order, new int[] {0, 1});
    }

    private int one(String name, int[] a) {
        boolean ok = in(a[0], k.riders) && in(a[1], k.orders);
        if (!ok || (name.equals("trip") && !in(a[2], 0, 2))) {
            return Due.BEYOND;
        }
        int[] o = k.orders.get(a[1]);
        if (o[5] != 0) {
            return Due.STATE;
        }
        int[] t = alone(a[0], a[1]);
        if (t == null) {
            return Due.NONE;
        }
        if (name.equals("trip")) {
            return new int[] {t[0], t[1], late(o, t[1])}[a[2]];
        }
        int begin = Math.max(k.now, k.riders.get(a[0])[4]);
        give(a[0], a[1], t[0], t[1], begin, t[4], pay(a[0], a[1], t[0], t[1]));
        move(a[0], t);
        return t[1];
    }

    private int two(String name, int[] a) {
        boolean ok = in(a[0], k.riders) && in(a[1], k.orders) && in(a[2], k.orders) && a[1] != a[2];
        if (!ok || (name.equals("join") && !in(a[3], 0, 4))) {
            return Due.BEYOND;
        }
        int[] x = k.orders.get(a[1]);
        int[] y = k.orders.get(a[2]);
        if (x[5] != 0 || y[5] != 0) {
            return Due.STATE;
        }
        int[] rider = k.riders.get(a[0]);
        int begin = Math.max(k.now, rider[4]);
        TreeSet<Long> ranks = new TreeSet<>();
        for (int w = 0; w < 6; w++) {
            int[] t = along(rider[0], rider[3], begin, x, y, WAYS[w]);
            if (t != null) {
                ranks.add((late(x, t[1]) + late(y, t[3])) * 1000000L + t[4] * 10L + w);
            }
        }
        if (ranks.isEmpty()) {
            return Due.NONE;
        }
        int w = (int) (ranks.first() % 10);
        int[] t = along(rider[0], rider[3], begin, x, y, WAYS[w]);
        if (name.equals("join")) {
            return new int[] {w, late(x, t[1]) + late(y, t[3]), t[4], t[1], t[3]}[a[3]];
        }
        int payOne = pay(a[0], a[1], t[0], t[1]);
        int payOther = pay(a[0], a[2], t[2], t[3]);
        give(a[0], a[1], t[0], t[1], begin, t[4], payOne);
        // the MINUTES of a joined TRIP are told once, with the one
        give(a[0], a[2], t[2], t[3], 0, 0, payOther);
        move(a[0], t);
        return t[4];
    }

    private void give(int r, int o, int pick, int drop, int begin, int end, int pay) {
        int[] row = k.orders.get(o);
        row[5] = 1;
        row[6] = r;
        row[7] = pick;
        row[8] = drop;
        row[9] = pay;
        row[10] = begin;
        row[11] = end;
    }

    private void move(int r, int[] t) {
        k.riders.get(r)[3] = t[5];
        k.riders.get(r)[4] = t[4];
    }

    private int pay(int r, int o, int pick, int drop) {
        if (k.pay < 0) {
            return 0;
        }
        int[] n = namesNow(r, o);
        n[1] = pick - k.orders.get(o)[2];
        n[4] = late(k.orders.get(o), drop);
        return Math.min(9999, Math.max(0, new Sum(k.texts.get(k.pay), n).all()));
    }

    private List<int[]> given(int r) {
        List<int[]> rows = new ArrayList<>();
        for (int[] o : k.orders) {
            if (o[5] == 1 && o[6] == r) {
                rows.add(o);
            }
        }
        return rows;
    }

    private int[] lacks(int[] o) {
        int cook = o[4] / 5;
        return new int[] {cook, Math.max(0, late(o, o[8]) / 5 - cook), (o[7] - ready(o)) / 4};
    }

    private int rating(int[] o) {
        return Math.max(0, 50 - Arrays.stream(lacks(o)).sum());
    }

    private int payOf(int[] o) {
        int more = k.rains.stream().filter(n -> in(o[7], n[0], n[1])).mapToInt(n -> n[2]).sum();
        return o[9] * (100 + more) / 100;
    }

    private int orderOf(int i, int what) {
        if (!in(i, k.orders) || !in(what, 0, 10)) {
            return Due.BEYOND;
        }
        int[] o = k.orders.get(i);
        if (what >= 5 && o[5] != 1) {
            return Due.NONE;
        }
        return new int[] {o[0], o[1], o[2], ready(o), o[5], o[6], o[7], o[8],
            what < 5 ? 0 : late(o, o[8]), what < 5 ? 0 : payOf(o), what < 5 ? 0 : rating(o)}[what];
    }

    private int refusals(int r) {
        return (int) k.refusals.stream().filter(f -> f[0] == r).count();
    }

    private boolean refused(int r, int o) {
        return k.refusals.stream().anyMatch(f -> f[0] == r && f[1] == o);
    }

    private int rated(int r) {
        return (int) given(r).stream().mapToInt(this::rating).average().orElse(25);
    }

    private int riderOf(int r, int what) {
        if (!in(r, k.riders) || !in(what, 0, 7)) {
            return Due.BEYOND;
        }
        int[] row = k.riders.get(r);
        int engaged = given(r).stream().mapToInt(o -> o[11] - o[10]).sum();
        int pay = given(r).stream().mapToInt(this::payOf).sum();
        return new int[] {row[0], row[3], row[4], given(r).size(), engaged, pay, rated(r),
            refusals(r)}[what];
    }

    private int counts(int r) {
        int whole = 0;
        int shared = 0;
        for (int m = 0; m < 1440; m++) {
            int minute = m;
            boolean busy = given(r).stream().anyMatch(o -> o[10] <= minute && minute < o[11]);
            boolean app = k.apps.stream()
                    .anyMatch(p -> p[0] == r && p[1] <= minute && minute < p[2]);
            whole += busy && !app ? 1 : 0;
            shared += busy && app ? 1 : 0;
        }
        return whole + shared / 2;
    }

    private int doubles(int r, int what) {
        if (!in(r, k.riders) || !in(what, 0, 2)) {
            return Due.BEYOND;
        }
        List<int[]> twos = new ArrayList<>();
        for (int i = 0; i < k.seen.size(); i++) {
            for (int j = i + 1; j < k.seen.size(); j++) {
                int[] s = k.seen.get(i);
                int[] t = k.seen.get(j);
                int way = t[2] < s[2] ? way(t[1], s[1]) : way(s[1], t[1]);
                if (s[0] == r && t[0] == r && (way < 0 || way > Math.abs(s[2] - t[2]))) {
                    twos.add(new int[] {i, j});
                }
            }
        }
        return what == 0 ? twos.size() : twos.isEmpty() ? Due.NONE : twos.get(0)[what - 1];
    }

    private int zone(int z, int what) {
        if (!in(z, 0, 3) || !in(what, 0, 3)) {
            return Due.BEYOND;
        }
        int[] sums = new int[4];
        for (int[] o : k.orders) {
            if (k.cross[o[1]][1] == z && o[5] == 0) {
                sums[0]++;
            } else if (k.cross[o[1]][1] == z && o[5] == 1) {
                sums[1]++;
                sums[2] += late(o, o[8]);
                sums[3] += payOf(o);
            }
        }
        return sums[what];
    }

    private int starves(int n) {
        if (!minute(n)) {
            return Due.BEYOND;
        }
        int[] hungry = new int[4];
        for (int[] o : k.orders) {
            hungry[k.cross[o[1]][1]] += o[5] == 0 && k.now - o[2] > n ? 1 : 0;
        }
        int most = Arrays.stream(hungry).max().getAsInt();
        for (int z = 0; z < 4; z++) {
            if (most > 0 && hungry[z] == most) {
                return z;
            }
        }
        return Due.NONE;
    }

    private int copy(int s, int from, int t, int to, int n) {
        if (!in(s, 0, 3) || !in(t, 0, 3)) {
            return Due.BEYOND;
        }
        if (sheets[s] == null || sheets[t] == null) {
            return Due.MISSING;
        }
        if (bits[s] != bits[t]) {
            return Due.KIND;
        }
        if (from < 0 || to < 0 || n < 0 || (long) from + n > sheets[s].length
                || (long) to + n > sheets[t].length) {
            return Due.BEYOND;
        }
        int[] was = sheets[s].clone();
        for (int i = 0; i < n; i++) {
            sheets[t][to + i] = was[from + i];
        }
        return n;
    }

    private int[] names(int kind, int at, int[] o) {
        int kitchen = k.kitchens.get(o[0])[0];
        return new int[] {Math.max(0, goes(kind, at, kitchen)), 0, 0, 0, 0,
            Math.max(0, goes(kind, kitchen, o[1])), 0};
    }

    private int[] namesNow(int r, int i) {
        int[] rider = k.riders.get(r);
        int[] o = k.orders.get(i);
        int[] n = names(rider[0], rider[3], o);
        int[] t = alone(r, i);
        n[1] = (o[5] == 1 ? o[7] : k.now) - o[2];
        n[2] = given(r).size();
        n[3] = rated(r);
        n[4] = o[5] == 1 ? late(o, o[8]) : t == null ? 0 : late(o, t[1]);
        n[6] = r;
        return n;
    }

    private int offered(int o) {
        int best = -1;
        int most = 0;
        for (int r = k.riders.size() - 1; r >= 0; r--) {
            if (k.riders.get(r)[4] > k.now || refused(r, o) || alone(r, o) == null) {
                continue;
            }
            int says = new Sum(k.texts.get(k.rule), namesNow(r, o)).all();
            if (best < 0 || says >= most) {
                best = r;
                most = says;
            }
        }
        return best;
    }

    /** Given, late, most, fewest, last end, then to whom, by ORDERS. */
    private int[] night(int text) {
        List<int[]> riders = new ArrayList<>();
        for (int[] r : k.riders) {
            riders.add(new int[] {r[0], r[1], r[2], 0});
        }
        int[] all = new int[5 + k.orders.size()];
        Arrays.fill(all, 5, all.length, -1);
        for (int minute = 0; minute < 1440; minute++) {
            for (int i = 0; i < k.orders.size(); i++) {
                int[] o = k.orders.get(i);
                if (o[2] == minute && o[5] != 2) {
                    oneOfNight(text, riders, o, i, all);
                }
            }
        }
        all[2] = riders.stream().mapToInt(r -> r[3]).max().orElse(0);
        all[3] = riders.stream().mapToInt(r -> r[3]).min().orElse(0);
        return all;
    }

    private void oneOfNight(int text, List<int[]> riders, int[] o, int i, int[] all) {
        int most = 0;
        int[] trip = null;
        for (int r = 0; r < riders.size(); r++) {
            int[] row = riders.get(r);
            int[] t = along(row[0], row[1], Math.max(row[2], o[2]), o, o, new int[] {0, 1});
            if (k.riders.get(r)[2] > o[2] || t == null) {
                continue;
            }
            int[] n = names(row[0], row[1], o);
            n[2] = row[3];
            n[3] = 25;
            n[4] = late(o, t[1]);
            n[6] = r;
            int says = new Sum(k.texts.get(text), n).all();
            if (trip == null || says > most) {
                most = says;
                trip = t;
                all[5 + i] = r;
            }
        }
        if (trip != null) {
            int[] row = riders.get(all[5 + i]);
            row[1] = trip[5];
            row[2] = trip[4];
            row[3]++;
            all[0]++;
            all[1] += late(o, trip[1]);
            all[4] = Math.max(all[4], trip[4]);
        }
    }

    private int text() {
        if (k.texts.size() == 8) {
            return Due.FULL;
        }
        String read = tape;
        tape = "";
        int fault = new Sum(read, new int[7]).fault();
        if (fault >= 0) {
            return -1 - fault;
        }
        k.texts.add(read);
        return k.texts.size() - 1;
    }

    /** A TEXT worked out from its letters as it is read; a FAULT is thrown. */
    private static final class Sum {
        private static final class Fault extends RuntimeException {
            private static final long serialVersionUID = 1L;
            final int place;

            Fault(int place) {
                this.place = place;
            }
        }

        private final List<String> tokens = new ArrayList<>();
        private final List<Integer> places = new ArrayList<>();
        private final int[] names;
        private int next = 0;

        Sum(String text, int[] names) {
            this.names = names;
            java.util.regex.Matcher m = java.util.regex.Pattern
                    .compile("[0-9]+|[^ ]", java.util.regex.Pattern.DOTALL).matcher(text);
            while (m.find()) {
                tokens.add(m.group());
                places.add(m.start());
            }
            tokens.add("end");
            places.add(text.length());
        }

        int fault() {
            try {
                all();
                return -1;
            } catch (Fault f) {
                return f.place;
            }
        }

        int all() {
            int v = text(6);
            if (!peek("end")) {
                throw new Fault(places.get(next));
            }
            return v;
        }

        private boolean peek(String... some) {
            return Arrays.asList(some).contains(tokens.get(next));
        }

        private int text(int left) {
            int v = sum(left);
            if (peek("<", "=")) {
                boolean less = tokens.get(next++).equals("<");
                int w = sum(left);
                return (less ? v < w : v == w) ? 1 : 0;
            }
            return v;
        }

        private int sum(int left) {
            int v = term(left);
            while (peek("+", "-")) {
                v += tokens.get(next++).equals("+") ? term(left) : -term(left);
            }
            return v;
        }

        private int term(int left) {
            int v = single(left);
            while (peek("*", "/")) {
                boolean times = tokens.get(next++).equals("*");
                int w = single(left);
                v = times ? v * w : w == 0 ? 0 : v / w;
            }
            return v;
        }

        private int single(int left) {
            String t = tokens.get(next);
            if (t.matches("0*[0-9]{1,4}")) {
                next++;
                return Integer.parseInt(t);
            }
            if (t.length() == 1 && "dwhrlcn".contains(t)) {
                next++;
                return names["dwhrlcn".indexOf(t)];
            }
            if (left > 0 && t.equals("-")) {
                next++;
                return -single(left - 1);
            }
            if (left > 0 && t.equals("(")) {
                next++;
                int v = text(left - 1);
                if (!peek(")")) {
                    throw new Fault(places.get(next));
                }
                next++;
                return v;
            }
            throw new Fault(places.get(next));
        }
    }
}
