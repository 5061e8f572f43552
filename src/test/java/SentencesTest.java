import java.lang.reflect.Method;
import java.nio.file.Files;
import java.nio.file.Path;
import java.util.List;
import java.util.Set;
import java.util.TreeSet;
import java.util.regex.Matcher;
import java.util.regex.Pattern;

/** Each sentence of the Terms and of the promises has a test of its own, and each such test a sentence. */
public final class SentencesTest {
    private static final Path DOCUMENT = Path.of("../shared/DOC.md");
    private static final List<Class<? extends Bounds>> TESTS = List.of(BoundsTermsTownTest.class,
            BoundsTermsTextsTest.class, Bounds01To16Test.class, Bounds17To32Test.class, Bounds33To48Test.class);
    /** No call tells a set, so there is nothing to ask. */
    private static final String UNTESTED = "0: Sets are told as bits.";

    public static void main(String[] args) throws Exception {
        Set<String> told = sentences(Files.readString(DOCUMENT));
        Set<String> tested = new TreeSet<>();
        for (Class<? extends Bounds> tests : TESTS) {
            for (Method method : tests.getDeclaredMethods()) {
                Sentence sentence = method.getAnnotation(Sentence.class);
                if (sentence != null) {
                    tested.add(sentence.of() + ": " + sentence.says());
                }
            }
        }
        Due.isTrue("sentences are found: " + told.size(), told.size() > 150);
        for (String sentence : told) {
            Due.isTrue("tested: " + sentence, sentence.equals(UNTESTED) || tested.contains(sentence));
        }
        for (String sentence : tested) {
            Due.isTrue("in the document: " + sentence, told.contains(sentence));
        }
        Due.end();
    }

    /** Those of the Terms as "0: ..", those of promise n as "n: ..". */
    private static Set<String> sentences(String document) {
        Set<String> all = new TreeSet<>();
        String terms = document.substring(document.indexOf("## Terms") + 8,
                document.indexOf("Ahead of the calls"));
        for (String line : terms.split("\n")) {
            addAll(all, "0: ", line.startsWith("```") ? "" : line);
        }
        Matcher m = Pattern.compile("## Promise (\\d+): .*\n\n`[^`]*`: (.*)\n").matcher(document);
        while (m.find()) {
            addAll(all, m.group(1) + ": ", m.group(2));
        }
        return all;
    }

    private static void addAll(Set<String> all, String of, String line) {
        String words = line.strip().replaceFirst("^\\d\\. ", "");
        // ".." within a sentence ends none
        for (String sentence : words.split("(?<=[^.]\\.) ")) {
            if (!sentence.isEmpty()) {
                all.add(of + sentence);
            }
        }
    }
}
