import java.nio.file.Files;
import java.nio.file.Path;
import java.util.ArrayList;
import java.util.List;
import java.util.function.IntSupplier;
import java.util.regex.Matcher;
import java.util.regex.Pattern;

/** What README.md tells of the class holds: its example, its findings, its lists of calls, numbers and tests. */
public final class ReadmeTest {
    private static final Path README = Path.of("README.md");
    private static final Path DOCUMENT = Path.of("../shared/DOC.md");
    private static final Path TESTS = Path.of("src/test/java");

    private static final List<String> codes = new ArrayList<>();
    private static final List<IntSupplier> calls = new ArrayList<>();

    public static void main(String[] args) throws Exception {
        String readme = Files.readString(README);
        example(readme);
        findings(readme);
        everyCall(readme);
        numbers(readme);
        everyTest(readme);
        Due.end();
    }

    private static void line(String code, IntSupplier call) {
        codes.add(code);
        calls.add(call);
    }

    /** The lines of the example, as they stand there, each with the answer that is told behind it. */
    private static void example(String readme) {
        BagRiders x = new BagRiders();
        line("x.road(0, 1, 10)", () -> x.road(0, 1, 10));
        line("x.kitchen(0, 5)", () -> x.kitchen(0, 5));
        line("x.rider(1, 1)", () -> x.rider(1, 1));
        line("x.order(0, 1, 30, 0)", () -> x.order(0, 1, 30, 0));
        line("x.feed('-' << 8 | 'd', 2)", () -> x.feed('-' << 8 | 'd', 2));
        line("x.text()", () -> x.text());
        line("x.force(0, 0)", () -> x.force(0, 0));
        line("x.offered(0)", () -> x.offered(0));
        line("x.offerAll()", () -> x.offerAll());
        line("x.orderOf(0, 7)", () -> x.orderOf(0, 7));
        line("x.give(0, 0)", () -> x.give(0, 0));
        line("x.status(-1)", () -> x.status(-1));
        Matcher told = Pattern.compile("(?m)^(x\\..*); +// (-?\\d+)\\b").matcher(readme);
        int i = 0;
        for (; told.find() && i < codes.size(); i++) {
            Due.isTrue("the example's line " + told.group(1), told.group(1).equals(codes.get(i)));
            Due.is(codes.get(i), Integer.parseInt(told.group(2)), calls.get(i).getAsInt());
        }
        Due.is("lines of the example", codes.size(), i);
        Due.isTrue("no line more", !told.find());
    }

    private static void findings(String readme) {
        String[] names = {"BEYOND", "FULL", "KIND", "NONE", "STATE", "MISSING", "SIZE"};
        for (int f = 0; f < names.length; f++) {
            String row = "| " + (Due.BEYOND - f) + " | " + names[f] + " | " + f + " |";
            Due.isTrue("the finding " + row, readme.contains(row));
        }
    }

    private static void everyCall(String readme) throws Exception {
        Matcher face = Pattern.compile("(?m)^    public int (\\w+)\\((.*)\\);")
                .matcher(Files.readString(DOCUMENT));
        int seen = 0;
        while (face.find()) {
            seen++;
            String call = "`" + face.group(1) + "(" + face.group(2).replace("int ", "") + ")`";
            Due.isTrue("README.md tells of " + call, readme.contains(call));
        }
        Due.is("calls of the face", 47, seen);
    }

    /** The last number that a row tells is one that the call takes, and the next one is not. */
    private static void numbers(String readme) {
        last(readme, "crossing", 1, 0, 1, 0);
        last(readme, "rider", 0, 0, 0);
        last(readme, "as", 1, 0, 0);
        last(readme, "orderOf", 1, 1, 0);
        last(readme, "riderOf", 1, 0, 0);
        last(readme, "trip", 2, 0, 0, 0);
        last(readme, "join", 3, 0, 0, 3, 0);
        last(readme, "least", 1, 0, 0);
        last(readme, "lacks", 1, 1, 0);
        last(readme, "doubles", 1, 0, 0);
        last(readme, "zone", 1, 0, 0);
        last(readme, "night", 1, 0, 0);
        last(readme, "count", 0, 0);
        last(readme, "status", 0, 0);
    }

    private static void last(String readme, String call, int place, int... arguments) {
        Matcher row = Pattern.compile("(?m)^\\|[^|]*`" + call + "`[^|]*\\| (?:what|which|kind|part): (.*)$")
                .matcher(readme);
        if (!row.find()) {
            Due.isTrue("README.md tells the numbers of " + call, false);
            return;
        }
        int most = -1;
        Matcher number = Pattern.compile("(\\d+) \\w").matcher(row.group(1).replaceAll("\\(.*?\\)", ""));
        while (number.find()) {
            most = Math.max(most, Integer.parseInt(number.group(1)));
        }
        arguments[place] = most;
        Due.isTrue(call + " takes " + most, Bounds.town().call(call, arguments) != Due.BEYOND);
        arguments[place] = most + 1;
        Due.is(call + " with " + (most + 1), Due.BEYOND, Bounds.town().call(call, arguments));
    }

    private static void everyTest(String readme) throws Exception {
        try (var files = Files.list(TESTS)) {
            files.map(file -> file.getFileName().toString()).filter(name -> name.endsWith("Test.java"))
                    .map(name -> name.substring(0, name.length() - 5))
                    .forEach(name -> Due.isTrue("README.md tells of " + name,
                            Pattern.compile("\\b" + name + "\\b").matcher(readme).find()));
        }
    }
}
