import java.lang.reflect.Method;
import java.util.Arrays;
import java.util.Comparator;

/** What the tests of single sentences share: the findings by name, and how they are run. */
abstract class Bounds {
    static final int BEYOND = Due.BEYOND;
    static final int FULL = Due.FULL;
    static final int KIND = Due.KIND;
    static final int NONE = Due.NONE;
    static final int STATE = Due.STATE;
    static final int MISSING = Due.MISSING;
    static final int SIZE = Due.SIZE;
    static final int MIN = Integer.MIN_VALUE;
    static final int MAX = Integer.MAX_VALUE;

    /** Runs each method that names a sentence; one that asks nothing is a fault of the test. */
    static void run(Class<? extends Bounds> tests) throws Exception {
        Method[] methods = tests.getDeclaredMethods();
        Arrays.sort(methods, Comparator.comparing(Method::getName));
        for (Method method : methods) {
            Sentence sentence = method.getAnnotation(Sentence.class);
            if (sentence == null) {
                continue;
            }
            Due.about(method.getName() + " (" + sentence.says() + ")");
            int asked = Due.asked();
            method.setAccessible(true);
            method.invoke(null);
            Due.isTrue("it asks something", Due.asked() > asked);
        }
        Due.about("");
        Due.end();
    }

    /**
     * A town in which something of each kind stands. KITCHENS 0 to 2, RIDERS 0 to 4, TEXTS 0 to 2.
     * ORDERS 0, 3 and 4 wait (4 without a WAY), 1, 5 and 6 are GIVEN, 2 is called off.
     * Sheet 0 has six numbers of 8 bits, 1 three of 16, 2 four of 8; 3 is MISSING.
     */
    static Run town() {
        Run r = new Run();
        r.call("road", 0, 1, 10);
        r.call("road", 1, 2, 20);
        r.call("road", 2, 3, 5);
        r.call("crossing", 2, 0, 3);
        r.call("crossing", 3, 1, 1);
        r.call("kitchen", 0, 5);
        r.call("kitchen", 2, 3);
        r.call("kitchen", 9, 1);
        r.call("rider", 0, 0);
        r.call("rider", 1, 1);
        r.call("rider", 2, 2);
        r.call("rider", 6, 3);
        r.call("rider", 0, 9);
        r.call("order", 0, 1, 30, 0);
        r.call("order", 1, 3, 30, 4);
        r.call("order", 0, 2, 30, 0);
        r.call("order", 1, 0, 40, 0);
        r.call("order", 2, 0, 40, 0);
        r.call("order", 0, 3, 60, 10);
        r.call("order", 0, 2, 60, 0);
        r.text("-d");
        r.text("c+w");
        r.text("n");
        r.call("force", 0, 0);
        r.call("force", 1, 1);
        r.call("law", 60);
        r.call("rain", 0, 100, 10);
        r.call("app", 1, 0, 20);
        r.call("seen", 0, 0, 10);
        r.call("seen", 0, 3, 11);
        r.call("hold", 0, 3);
        r.call("hold", 1, 0);
        r.call("image");
        r.call("minutes", 7);
        r.call("give", 1, 1);
        r.call("giveTwo", 2, 5, 6);
        r.call("callOff", 2);
        r.call("refuse", 3, 0);
        row(r, 0, 8, 3, 4, 7, 4, 5, 9);
        row(r, 1, 16, 1, 4, 8);
        row(r, 2, 8, 0, 0, 0, 0);
        r.feed("d+");
        return r;
    }

    /** A sheet of so many bits has these numbers. */
    static void row(Run r, int s, int bits, int... numbers) {
        r.call("sheet", s, bits, numbers.length);
        for (int i = 0; i < numbers.length; i++) {
            r.call("write", s, i, numbers[i]);
        }
    }
}
