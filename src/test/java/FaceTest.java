import java.io.IOException;
import java.lang.reflect.Constructor;
import java.lang.reflect.Field;
import java.lang.reflect.Method;
import java.lang.reflect.Modifier;
import java.nio.charset.StandardCharsets;
import java.nio.file.Files;
import java.nio.file.Path;
import java.util.ArrayList;
import java.util.Arrays;
import java.util.List;
import java.util.TreeSet;
import java.util.regex.Matcher;
import java.util.regex.Pattern;

/** The class has the document's face and no other, and its text keeps to what LANGUAGE.md rules out by name. */
public final class FaceTest {
    private static final Path SOURCE = Path.of("src/main/java/StickyRoutes.java");
    private static final int LONGEST_METHOD = 60;
    private static final int MOST_CLASSES = 12;
    private static final int MOST_FIELDS = 20;
    private static final int MOST_PARAMETERS = 7;
    private static final String[] FACE = {
        "int towns(int)", "int link(int,int,int,int)", "int links(int,int)", "int back(int)", "int load(int,int)", "int seed(int)",
        "int of(int,int,int)", "int sticky(int,int)", "int call(int,int,int)", "int hours(int)", "int going(int,int)", "int ends(int)",
        "int all(int)", "int pair(int,int,int)", "int worst(int)", "int burden()", "int would(int,int)", "int best(int,int)",
        "int choked(int)", "int type(int)", "int clear()", "int does()", "int undo()", "int told(int)", "long digest()"};
    private static final String[] RULED_OUT = {
        "throw", "throws", "try", "catch", "finally", "synchronized", "assert", "import", "package", "protected", "Exception", "Error",
        "Object", "volatile", "transient", "native", "var", "yield", "hashCode", "toString", "Integer", "Long", "Thread"};

    private final Checks checks = new Checks();

    public static void main(String[] args) throws IOException {
        FaceTest test = new FaceTest();
        test.face();
        test.inside();
        test.sizes();
        test.source(Files.readString(SOURCE, StandardCharsets.UTF_8));
        test.checks.end("FaceTest");
    }

    private static String signature(Method m) {
        List<String> types = new ArrayList<>();
        for (Class<?> type : m.getParameterTypes()) {
            types.add(type.getName());
        }
        return m.getReturnType().getName() + " " + m.getName() + "(" + String.join(",", types) + ")";
    }

    private void face() {
        checks.holds("public and final", Modifier.isPublic(StickyRoutes.class.getModifiers())
            && Modifier.isFinal(StickyRoutes.class.getModifiers()));
        TreeSet<String> open = new TreeSet<>();
        for (Method m : StickyRoutes.class.getDeclaredMethods()) {
            if (Modifier.isPublic(m.getModifiers())) {
                open.add(signature(m));
            } else {
                checks.holds(m + " is private", Modifier.isPrivate(m.getModifiers()));
            }
        }
        checks.holds("the methods are " + open, open.equals(new TreeSet<>(Arrays.asList(FACE))));
        Constructor<?>[] makers = StickyRoutes.class.getDeclaredConstructors();
        checks.holds("one public constructor", makers.length == 1 && makers[0].getParameterCount() == 0
            && Modifier.isPublic(makers[0].getModifiers()));
        TreeSet<String> constants = new TreeSet<>();
        for (Field f : StickyRoutes.class.getDeclaredFields()) {
            if (Modifier.isPublic(f.getModifiers())) {
                constants.add(Modifier.toString(f.getModifiers()) + " " + f.getName());
            } else {
                checks.holds(f + " is private", Modifier.isPrivate(f.getModifiers()));
            }
        }
        checks.holds("the constants are " + constants, constants.equals(new TreeSet<>(Arrays.asList(
            "public static final NONE", "public static final BAD", "public static final NO", "public static final FULL"))));
    }

    private void inside() {
        TreeSet<String> names = new TreeSet<>();
        for (Method m : StickyRoutes.class.getDeclaredMethods()) {
            if (Modifier.isPublic(m.getModifiers())) {
                names.add(m.getName());
            }
        }
        for (Class<?> inner : StickyRoutes.class.getDeclaredClasses()) {
            checks.holds(inner + " is static", Modifier.isStatic(inner.getModifiers()));
            checks.holds(inner + " is not public", !Modifier.isPublic(inner.getModifiers()));
            for (Method m : inner.getDeclaredMethods()) {
                checks.holds(m + " bears no public name", !names.contains(m.getName()));
            }
            for (Field f : inner.getDeclaredFields()) {
                checks.holds(f + " is final if static", !Modifier.isStatic(f.getModifiers()) || Modifier.isFinal(f.getModifiers()));
            }
        }
    }

    private void sizes() {
        List<Class<?>> all = new ArrayList<>(Arrays.asList(StickyRoutes.class.getDeclaredClasses()));
        all.add(StickyRoutes.class);
        checks.holds("few classes", all.size() <= MOST_CLASSES);
        for (Class<?> one : all) {
            int fields = 0;
            for (Field f : one.getDeclaredFields()) {
                fields += Modifier.isStatic(f.getModifiers()) ? 0 : 1;
            }
            checks.holds(one + " has few fields", fields <= MOST_FIELDS);
            for (Method m : one.getDeclaredMethods()) {
                checks.holds(m + " takes few arguments", m.getParameterCount() <= MOST_PARAMETERS);
            }
        }
    }

    private void source(String text) {
        String code = text.replaceAll("(?s)/\\*.*?\\*/", "").replaceAll("//[^\n]*", "");
        for (String word : RULED_OUT) {
            checks.holds("no " + word, !Pattern.compile("\\b" + word + "\\b").matcher(code).find());
        }
        checks.holds("no lambda", !code.contains("->"));
        checks.holds("no method reference", !code.contains("::"));
        checks.holds("plain signs alone", text.chars().allMatch(c -> c == 10 || c >= 32 && c < 127));
        Matcher library = Pattern.compile("\\b(System|Math|Arrays)\\.(\\w+)").matcher(code);
        while (library.find()) {
            String call = library.group();
            checks.holds(call + " is allowed", Arrays.asList("System.arraycopy", "Math.min", "Math.max", "Math.floorMod").contains(call));
        }
        methodsAreShort(text);
    }

    private void methodsAreShort(String text) {
        String[] lines = text.split("\n");
        int methods = 0;
        for (int i = 0; i < lines.length; i++) {
            Matcher head = Pattern.compile("( {4}| {8})\\w[\\w\\[\\] ]*\\(.*\\) \\{").matcher(lines[i]);
            if (head.matches()) {
                int end = i;
                while (!lines[end].equals(head.group(1) + "}")) {
                    end++;
                }
                methods++;
                checks.holds("line " + (i + 1) + ": a short method", end - i < LONGEST_METHOD);
            }
        }
        checks.holds("methods were found", methods > FACE.length);
    }
}
