import java.io.IOException;
import java.lang.reflect.Field;
import java.lang.reflect.Method;
import java.lang.reflect.Modifier;
import java.nio.file.Files;
import java.nio.file.Path;
import java.util.ArrayList;
import java.util.List;
import java.util.Set;
import java.util.regex.Matcher;
import java.util.regex.Pattern;

/** The rules of LANGUAGE.md that can be seen in the program's text or in its classes, each with its number. */
public final class LanguageTest {
    private static final Path PROGRAM = Path.of("src/main/java/RoundedNumbers.java");
    private static final int LONGEST_METHOD = 60;
    private static final int MOST_PARAMETERS = 7;
    private static final int MOST_CLASSES = 12;
    private static final int MOST_FIELDS = 20;

    /** Of the library, what the program may lean on: functions over int and long alone. */
    private static final Set<String> LIBRARY = Set.of(
        "Math.abs", "Math.min", "Math.max", "Long.signum", "Long.bitCount", "Long.numberOfTrailingZeros",
        "Long.numberOfLeadingZeros", "Long.compareUnsigned");
    private static final Set<Class<?>> CONSTANTS = Set.of(
        int.class, long.class, boolean.class, char.class, String.class, int[].class, long[].class, char[].class, byte[].class);

    private final Checks checks = new Checks();
    private final List<Class<?>> classes = new ArrayList<>();
    private String code = "";

    public static void main(String[] args) throws IOException {
        LanguageTest test = new LanguageTest();
        test.code = withoutComments(Files.readString(PROGRAM));
        test.classes.add(RoundedNumbers.class);
        test.classes.addAll(List.of(RoundedNumbers.class.getDeclaredClasses()));
        test.classesInside();
        test.words();
        test.library();
        test.staticFields();
        test.sizes();
        test.newObjects();
        test.checks.end("LanguageTest");
    }

    private static String withoutComments(String text) {
        return text.replaceAll("(?s)/\\*.*?\\*/", "").replaceAll("//[^\n]*", "");
    }

    private void classesInside() {
        for (Class<?> inside : RoundedNumbers.class.getDeclaredClasses()) {
            int modifiers = inside.getModifiers();
            due("rule 1: " + inside + " is static", Modifier.isStatic(modifiers));
            due("rule 1: " + inside + " is hidden", !Modifier.isPublic(modifiers) && !Modifier.isProtected(modifiers));
        }
        checks.due("rule 1: classes beside the public one", count("(?m)^(?!public ).*\\b(class|interface|enum|record) \\w+"), classes.size() - 1);
    }

    private void words() {
        none(2, "->|::");
        none(3, "\\b(double|float|Double|Float)\\b|\\d\\.\\d");
        none(4, "\\b(package|import)\\b");
        none(5, "\\bstatic \\{");
        none(6, "\\b(throw|throws|try|catch|finally|assert|synchronized)\\b");
        none(9, "while \\(true\\)|for \\(;;\\)");
        none(11, "\\t");
    }

    /** Every name with a capital before a point is a class: the program's own, or one of the library's few. */
    private void library() {
        Matcher use = Pattern.compile("\\b([A-Z]\\w*[a-z]\\w*)\\.(\\w+)").matcher(code);
        while (use.find()) {
            boolean isOwn = use.group(1).equals("Exact");
            due("rule 4: " + use.group(), isOwn || LIBRARY.contains(use.group()));
        }
    }

    private void staticFields() {
        for (Class<?> each : classes) {
            for (Field field : each.getDeclaredFields()) {
                if (Modifier.isStatic(field.getModifiers())) {
                    due("rule 5: " + field, Modifier.isFinal(field.getModifiers()) && CONSTANTS.contains(field.getType()));
                }
            }
        }
    }

    private void sizes() {
        due("rule 11: classes", classes.size() <= MOST_CLASSES);
        for (Class<?> each : classes) {
            int fields = 0;
            for (Field field : each.getDeclaredFields()) {
                fields += Modifier.isStatic(field.getModifiers()) ? 0 : 1;
            }
            due("rule 11: fields of " + each, fields <= MOST_FIELDS);
            for (Method method : each.getDeclaredMethods()) {
                due("rule 11: parameters of " + method, method.getParameterCount() <= MOST_PARAMETERS);
            }
        }
        int methods = 0;
        Matcher method = Pattern.compile("(?ms)^((?: {4}){1,2})[^ }\n][^=\n]*\\) \\{$.*?^\\1\\}$").matcher(code);
        while (method.find()) {
            methods++;
            String[] lines = method.group().split("\n");
            due("rule 11: length of " + lines[0].strip(), lines.length <= LONGEST_METHOD);
        }
        due("rule 11: the methods are found", methods >= RoundedNumbers.class.getDeclaredMethods().length);
    }

    /** Rule 12 would allow more, but rows that are made once keep every run small. */
    private void newObjects() {
        Matcher constructor = Pattern.compile("(?ms)^    public RoundedNumbers\\(\\) \\{$(.*?)^    \\}$").matcher(code);
        due("rule 12: there is a constructor", constructor.find());
        Matcher made = Pattern.compile("\\bnew\\b|\\.clone\\(|\\.copyOf").matcher(code);
        while (made.find()) {
            due("rule 12: made in the constructor: " + lineAt(made.start()), made.start() > constructor.start() && made.end() < constructor.end());
        }
        due("rule 12: no loop there", !Pattern.compile("\\b(for|while|do)\\b").matcher(constructor.group()).find());
    }

    private String lineAt(int index) {
        return code.substring(code.lastIndexOf('\n', index) + 1, code.indexOf('\n', index)).strip();
    }

    private void none(int rule, String pattern) {
        checks.due("rule " + rule + ": places with " + pattern, count(pattern), 0);
    }

    private int count(String pattern) {
        return (int) Pattern.compile(pattern).matcher(code).results().count();
    }

    private void due(String what, boolean holds) {
        checks.due(what, holds ? 1 : 0, 1);
    }
}
