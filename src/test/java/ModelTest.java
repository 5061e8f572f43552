import java.lang.reflect.Method;
import java.util.ArrayList;
import java.util.Arrays;
import java.util.List;
import java.util.Random;

/** Long runs of calls by chance (always the same ones): BagRiders answers as Model does. */
public final class ModelTest {
    private static final int RUNS = 400;
    private static final int CALLS = 512;

    private final Random random;
    private final BagRiders program = new BagRiders();
    private final Model model = new Model();
    private final List<String> calls = new ArrayList<>();
    private final boolean wild;

    private ModelTest(int run) {
        random = new Random(run);
        wild = run % 8 == 7;
    }

    public static void main(String[] args) throws Exception {
        int from = args.length > 0 ? Integer.parseInt(args[0]) : 0;
        int to = args.length > 1 ? Integer.parseInt(args[1]) : from + RUNS;
        for (int run = from; run < to; run++) {
            ModelTest test = new ModelTest(run);
            for (int i = 0; test.calls.size() < CALLS - 24; i++) {
                test.step(i);
            }
        }
        Due.end();
    }

    private void ask(String name, int... a) throws Exception {
        Class<?>[] types = new Class<?>[a.length];
        Arrays.fill(types, int.class);
        Object[] values = new Object[a.length];
        for (int i = 0; i < a.length; i++) {
            values[i] = a[i];
        }
        Method method = BagRiders.class.getMethod(name, types);
        int got = (Integer) method.invoke(program, values);
        int want = model.call(name, a);
        calls.add(name + Arrays.toString(a) + " " + got);
        Due.is("call " + calls.size() + ", " + name + Arrays.toString(a), want, got);
        if (got != want) {
            calls.forEach(System.out::println);
            System.exit(1);
        }
    }

    private int up(int n) {
        return random.nextInt(n);
    }

    private boolean odd(int n) {
        return random.nextInt(n) == 0;
    }

    /** A number from low to high, at times one beyond, or far beyond. */
    private int of(int low, int high) {
        if (wild && odd(3)) {
            int[] some = {Integer.MIN_VALUE, Integer.MAX_VALUE, -1, 0, 1, 16, 60, 1440, low - 1, high + 1};
            return some[up(some.length)];
        }
        if (odd(60)) {
            return odd(2) ? low - 1 : high + 1;
        }
        return odd(8) ? (odd(2) ? low : high) : low + up(Math.max(1, high - low + 1));
    }

    private int any(int what) {
        int n = program.count(what);
        return model.call("count", what) != n ? -9 : of(0, Math.max(0, n - 1));
    }

    /** An ORDER that waits, mostly. */
    private int waiting() {
        int n = program.count(2);
        model.call("count", 2);
        for (int i = 0; i < 4 && n > 0 && !wild; i++) {
            int o = up(n);
            model.call("orderOf", o, 4);
            if (program.orderOf(o, 4) == 0) {
                return o;
            }
        }
        return any(2);
    }

    private int place() {
        return odd(12) ? of(0, 15) : of(0, 7);
    }

    private void step(int i) throws Exception {
        if (i < 24 && !wild) {
            build(i);
            return;
        }
        switch (up(60)) {
            case 0: ask("crossing", place(), of(0, 1), of(0, 3 + up(7))); break;
            case 1: ask("road", place(), place(), of(1, 60)); break;
            case 2: ask("way", place(), place()); break;
            case 3: ask("minutes", odd(6) ? of(1, 600) : of(1, 30)); break;
            case 4: ask("kitchen", place(), of(1, 60)); break;
            case 5: case 6: case 7: ask("order", any(1), place(), of(10, 120), of(0, 60)); break;
            case 8: case 9: ask("orderOf", any(2), of(0, 10)); break;
            case 10: ask("callOff", odd(3) ? any(2) : -1); break;
            case 11: ask("rider", of(0, 6), place()); break;
            case 12: case 13: ask("riderOf", any(4), of(0, 7)); break;
            case 14: ask("goes", any(4), place(), place()); break;
            case 15: case 16: ask("trip", any(4), waiting(), of(0, 2)); break;
            case 17: case 18: ask("join", any(4), waiting(), waiting(), of(0, 4)); break;
            case 19: case 20: ask("give", any(4), waiting()); break;
            case 21: case 22: ask("giveTwo", any(4), waiting(), waiting()); break;
            case 23: ask("feed", random.nextInt(), of(1, 4)); break;
            case 24: ask("wipe"); break;
            case 25: case 26: writeText(); break;
            case 27: ask("force", of(0, 1), any(5)); break;
            case 28: case 29: case 30: ask("says", any(5), any(4), any(2)); break;
            case 31: case 32: ask("offered", waiting()); break;
            case 33: ask("refuse", any(4), waiting()); break;
            case 34: ask(odd(3) ? "offerAll" : "wipe"); break;
            case 35: ask("rain", of(0, 700), of(0, 1439), of(1, 99)); break;
            case 36: ask("law", of(0, 999)); break;
            case 37: ask("app", any(4), of(0, 700), of(0, 1439)); break;
            case 38: case 39: ask("least", any(4), of(0, 1)); break;
            case 40: ask("lacks", any(2), of(0, 2)); break;
            case 41: ask("ban", any(4), of(0, 50), of(1, 9)); break;
            case 42: ask("seen", any(4), place(), of(0, 60)); break;
            case 43: ask("doubles", any(4), of(0, 2)); break;
            case 44: ask("zone", of(0, 3), of(0, 3)); break;
            case 45: ask("starves", odd(2) ? of(0, 1439) : of(0, 20)); break;
            case 46: ask("night", any(5), of(0, 4)); break;
            case 47: ask("whom", any(5), any(2)); break;
            case 48: ask("hold", of(0, 9), any(4)); break;
            case 49: ask("as", of(0, 9), of(0, 6)); break;
            case 50: ask("sheet", of(0, 3), 8 * up(5), of(0, 60)); break;
            case 51: ask("write", of(0, 3), of(0, 30), odd(2) ? random.nextInt() : of(0, 11)); break;
            case 52: ask("copy", of(0, 3), of(0, 9), of(0, 3), of(0, 9), of(0, 20)); break;
            case 53: writeRoads(); break;
            case 54: ask("judge", of(0, 3), any(5)); break;
            case 55: writeNight(); break;
            case 56: ask("image"); break;
            case 57: ask(odd(12) ? "tear" : "undo"); break;
            case 58: ask("count", of(0, 6)); break;
            default: ask("status", of(-1, 6)); break;
        }
    }

    /** A town, with some to cook and some to ride, ahead of all else. */
    private void build(int i) throws Exception {
        if (i < 10) {
            ask("road", up(8), up(8), of(1, odd(2) ? 60 : 12));
        } else if (i < 13) {
            ask("kitchen", up(8), of(1, 20));
        } else if (i < 17) {
            ask("rider", up(7), up(8));
        } else if (i < 20) {
            ask("order", up(3), up(8), of(10, 60), of(0, 20));
        } else if (i < 22) {
            writeText();
        } else {
            ask("force", i - 22, 0);
        }
    }

    private void writeText() throws Exception {
        String text = sum(3);
        if (odd(4) && !text.isEmpty()) {
            int at = up(text.length());
            String sign = "dwhrlcn0123456789+-*/()<= x;()--".substring(up(32)).substring(0, 1);
            text = text.substring(0, at) + sign + text.substring(at + up(2));
        }
        if (odd(8)) {
            text = "((((((-------".substring(up(7), 7 + up(6)) + text;
        }
        if (!odd(3)) {
            ask("wipe");
        }
        text = text.substring(0, Math.min(80, text.length()));
        for (int i = 0; i < text.length(); i += 4) {
            int n = Math.min(4, text.length() - i);
            int bytes = random.nextInt();
            for (int j = 0; j < n; j++) {
                bytes = bytes << 8 | text.charAt(i + j);
            }
            ask("feed", bytes, n);
        }
        ask("text");
    }

    private String sum(int deep) {
        String s = single(deep);
        for (int i = up(3); i > 0; i--) {
            s += "+-*/".charAt(up(4)) + (odd(5) ? " " : "") + single(deep);
        }
        return odd(6) ? s + "<=".charAt(up(2)) + single(deep) : s;
    }

    private String single(int deep) {
        switch (deep == 0 ? up(4) : up(7)) {
            case 0: case 1: case 2: return "dwhrlcn".substring(up(7)).substring(0, 1);
            case 3: return "" + up(odd(3) ? 12000 : 50);
            case 4: return "-" + single(deep - 1);
            default: return "(" + sum(deep - 1) + ")";
        }
    }

    private void writeRoads() throws Exception {
        int s = up(4);
        if (odd(2)) {
            ask("sheet", s, 8 << up(3), 3 + up(5));
            for (int i = 0; i < 6; i++) {
                ask("write", s, i, i % 3 == 2 ? of(1, 60) : place());
            }
        }
        ask("roads", s);
    }

    /** The sheet is told what the NIGHT will be, mostly. */
    private void writeNight() throws Exception {
        int orders = program.count(2);
        model.call("count", 2);
        int text = any(5);
        int s = up(4);
        ask("sheet", s, 8 << up(3), Math.min(60, orders + (odd(4) ? 1 : 0)));
        for (int o = 0; o < orders && calls.size() < CALLS - 24; o++) {
            int to = program.whom(text, o);
            model.call("whom", text, o);
            ask("write", s, o, odd(30) ? 5 : to < 0 ? -1 : to);
        }
        ask("judge", s, text);
    }
}
