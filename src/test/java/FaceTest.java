import java.lang.reflect.Constructor;
import java.lang.reflect.Field;
import java.lang.reflect.Method;
import java.lang.reflect.Modifier;
import java.nio.file.Files;
import java.nio.file.Path;
import java.util.Set;
import java.util.StringJoiner;
import java.util.TreeSet;
import java.util.regex.Matcher;
import java.util.regex.Pattern;

/** The face is the document's, and no more; the program keeps to LANGUAGE.md where a test can see it. */
public final class FaceTest {
    private static final Path PROGRAM = Path.of("src/main/java/BagRiders.java");
    private static final Path DOCUMENT = Path.of("../shared/DOC.md");

    public static void main(String[] args) throws Exception {
        face();
        inside(BagRiders.class);
        for (Class<?> own : BagRiders.class.getDeclaredClasses()) {
            Due.isTrue(own + " is static, and not open to all", Modifier.isStatic(own.getModifiers())
                    && !Modifier.isPublic(own.getModifiers()) && !Modifier.isProtected(own.getModifiers()));
            Due.is("classes inside " + own, 0, own.getDeclaredClasses().length);
            inside(own);
        }
        String code = Files.readString(PROGRAM)
                .replaceAll("(?s)/\\*.*?\\*/", "").replaceAll("//[^\n]*", "");
        words(code);
        names(code);
        sizes(code);
        Due.end();
    }

    private static void face() throws Exception {
        Set<String> due = new TreeSet<>();
        Matcher m = Pattern.compile("(?m)^    public (int \\w+\\(.*\\));").matcher(
                Files.readString(DOCUMENT));
        while (m.find()) {
            due.add(m.group(1).replaceAll("int (\\w+)([,)])", "int$2"));
        }
        Set<String> got = new TreeSet<>();
        for (Method method : BagRiders.class.getDeclaredMethods()) {
            if (Modifier.isPublic(method.getModifiers())) {
                got.add(told(method));
            } else {
                Due.isTrue(method + " is private", Modifier.isPrivate(method.getModifiers()));
            }
        }
        Due.is("calls of the face, one for each promise but the first", 47, due.size());
        Due.isTrue("the face " + got, got.equals(due));
        for (Field field : BagRiders.class.getDeclaredFields()) {
            Due.isTrue(field + " is private", Modifier.isPrivate(field.getModifiers()));
        }
        Constructor<?>[] made = BagRiders.class.getDeclaredConstructors();
        Due.is("constructors", 1, made.length);
        Due.isTrue("the constructor", Modifier.isPublic(made[0].getModifiers())
                && made[0].getParameterCount() == 0);
        Due.isTrue("the class", Modifier.isPublic(BagRiders.class.getModifiers())
                && Modifier.isFinal(BagRiders.class.getModifiers()));
    }

    /** Static fields are constants; the others are some twenty at most. */
    private static void inside(Class<?> type) {
        Set<Class<?>> constants = Set.of(int.class, long.class, boolean.class, char.class, String.class,
                int[].class, long[].class, char[].class, byte[].class);
        int fields = 0;
        for (Field field : type.getDeclaredFields()) {
            if (Modifier.isStatic(field.getModifiers())) {
                Due.isTrue(field + " is a constant", Modifier.isFinal(field.getModifiers())
                        && constants.contains(field.getType()));
            } else {
                fields++;
            }
        }
        Due.isTrue("some twenty fields of " + type + ": " + fields, fields <= 20);
    }

    private static String told(Method method) {
        StringJoiner types = new StringJoiner(", ", "(", ")");
        for (Class<?> type : method.getParameterTypes()) {
            types.add(type.getName());
        }
        return method.getReturnType().getName() + " " + method.getName() + types;
    }

    private static void words(String code) {
        String[] none = {
            "\\bthrow\\b", "\\bthrows\\b", "\\btry\\b", "\\bcatch\\b", "\\bsynchronized\\b",
            "\\bassert\\b", "->", "::", "\\bpackage\\b", "\\bprotected\\b", "Exact\\b",
            "\\bdouble\\b", "\\bfloat\\b", "System\\.(?!arraycopy)", "\\bThread\\b", "\\bRandom\\b",
            "\\bstatic \\{", "\"\\s*\\+", "\\+\\s*\"", "\\bwhile \\(true\\)", "for \\(;;\\)"
        };
        for (String word : none) {
            Due.isTrue("no " + word, !Pattern.compile(word).matcher(code).find());
        }
        Matcher imports = Pattern.compile("(?m)^import (.*);").matcher(code);
        while (imports.find()) {
            Due.isTrue("import " + imports.group(1), imports.group(1).equals("java.util.Arrays"));
        }
        Matcher used = Pattern.compile("Arrays\\.(\\w+)").matcher(code);
        while (used.find()) {
            Due.isTrue("Arrays." + used.group(1), Set.of("copyOf", "fill").contains(used.group(1)));
        }
    }

    /** No method of the file but the face's bears one of its names. */
    private static void names(String code) {
        Set<String> face = new TreeSet<>();
        Matcher open = Pattern.compile("(?m)^    public int (\\w+)\\(").matcher(code);
        while (open.find()) {
            face.add(open.group(1));
        }
        Matcher own = Pattern.compile("(?m)^ +(?!public|return|new|else)(?:private )?(?:static )?"
                + "(?:int|void|boolean|int\\[\\]|[A-Z]\\w+) (\\w+)\\([^;]*\\) \\{").matcher(code);
        int seen = 0;
        while (own.find()) {
            seen++;
            Due.isTrue("a method of its own, " + own.group(1), !face.contains(own.group(1)));
        }
        Due.isTrue("own methods are found: " + seen, seen > 50);
    }

    private static void sizes(String code) {
        Matcher method = Pattern.compile(
                "(?ms)^( +)(?:public |private |static )*(?:\\w+(?:\\[\\])? )?\\w+\\(([^;{}]*)\\) \\{$(.*?)^\\1\\}$")
                .matcher(code);
        int seen = 0;
        while (method.find()) {
            seen++;
            long lines = method.group(3).lines().count();
            Due.isTrue("some sixty lines: " + lines + method.group(), lines <= 60);
            Due.isTrue("seven parameters: " + method.group(2), method.group(2).split(",").length <= 7);
        }
        Due.isTrue("methods are found: " + seen, seen > 100);
        int classes = code.split("\\bclass ").length - 1;
        Due.isTrue("some twelve classes: " + classes, classes <= 12);
    }
}
