import java.lang.reflect.Method;
import java.util.ArrayList;
import java.util.Arrays;
import java.util.HashMap;
import java.util.List;
import java.util.Map;

/** One object and the calls that it got, so that a twin of it can be made at any time. */
final class Run {
    private static final Map<String, Method> CALLS = new HashMap<>();

    static {
        for (Method method : BagRiders.class.getMethods()) {
            CALLS.put(method.getName(), method);
        }
    }

    private final BagRiders object = new BagRiders();
    private final List<String> names = new ArrayList<>();
    private final List<int[]> arguments = new ArrayList<>();

    int call(String name, int... a) {
        names.add(name);
        arguments.add(a.clone());
        try {
            return (Integer) CALLS.get(name).invoke(object, Arrays.stream(a).boxed().toArray());
        } catch (ReflectiveOperationException e) {
            throw new IllegalStateException(told(name, a), e);
        }
    }

    private static String told(String name, int... a) {
        return name + Arrays.toString(a).replace('[', '(').replace(']', ')');
    }

    Run due(int want, String name, int... a) {
        Due.is(told(name, a), want, call(name, a));
        return this;
    }

    /** A new object with the same calls behind it. */
    Run twin() {
        Run twin = new Run();
        for (int i = 0; i < names.size(); i++) {
            twin.call(names.get(i), arguments.get(i));
        }
        return twin;
    }

    /** The call answers a finding, which status() counts, and changes nothing else that Everything asks. */
    Run refuses(int finding, String name, int... a) {
        Run ahead = twin();
        due(finding, name, a);
        for (int f = -1; f <= 6; f++) {
            int more = f == -1 || f == Due.BEYOND - finding ? 1 : 0;
            Due.is("status(" + f + ") behind " + told(name, a),
                    ahead.twin().call("status", f) + more, twin().call("status", f));
        }
        return isLike(ahead);
    }

    /** What Everything asks of this one and of the other is answered alike. */
    Run isLike(Run other) {
        String latest = told(names.get(names.size() - 1), arguments.get(arguments.size() - 1));
        for (int part = 0; part < Everything.PARTS; part++) {
            Due.isTrue("behind " + latest + " part " + part + " is as it was", Arrays.equals(
                    Everything.answers(other.twin(), part), Everything.answers(twin(), part)));
        }
        return this;
    }

    /** From low to high an argument is fine; those beyond are refused. The object stays as it is. */
    Run within(int place, int low, int high, String name, int... fine) {
        for (int v : new int[] {low, high}) {
            int[] a = with(fine, place, v);
            Due.isTrue(told(name, a) + " is not BEYOND", twin().call(name, a) != Due.BEYOND);
        }
        for (int v : new int[] {low - 1, high + 1, Integer.MIN_VALUE, Integer.MAX_VALUE}) {
            twin().refuses(Due.BEYOND, name, with(fine, place, v));
        }
        return this;
    }

    private static int[] with(int[] fine, int place, int v) {
        int[] a = fine.clone();
        a[place] = v;
        return a;
    }

    /** Feeds a string to THE TAPE, four bytes at once where it can. */
    Run feed(String bytes) {
        for (int i = 0; i < bytes.length(); i += 4) {
            int n = Math.min(4, bytes.length() - i);
            int number = 0;
            for (int j = 0; j < n; j++) {
                number = number << 8 | bytes.charAt(i + j);
            }
            call("feed", number, n);
        }
        return this;
    }

    /** Reads a TEXT: what text() answers. */
    int text(String bytes) {
        feed(bytes);
        return call("text");
    }

    /** So many MINUTES go, more than one call allows, too. */
    Run go(int minutes) {
        for (int left = minutes; left > 0; left -= 600) {
            call("minutes", Math.min(600, left));
        }
        return this;
    }
}
