import java.io.IOException;
import java.lang.reflect.InvocationTargetException;
import java.lang.reflect.Method;
import java.lang.reflect.Modifier;
import java.nio.file.DirectoryStream;
import java.nio.file.Files;
import java.nio.file.Path;
import java.util.regex.Matcher;
import java.util.regex.Pattern;

/** README.md tells of every call and every answer, its examples answer what it says, and it names every test. */
public final class ReadmeTest {
    private static final Path README = Path.of("README.md");
    private static final Path TESTS = Path.of("src/test/java");

    /** A new object, or a call with its answer, which may be followed by a colon and words. */
    private static final Pattern NEW_OBJECT = Pattern.compile("RoundedNumbers x = new RoundedNumbers\\(\\);.*");
    private static final Pattern CALL = Pattern.compile("x\\.(\\w+)\\(([^)]*)\\);\\s+// (-?\\w+)(:.*)?");

    private final Checks checks = new Checks();
    private String text = "";

    public static void main(String[] args) throws IOException, ReflectiveOperationException {
        ReadmeTest test = new ReadmeTest();
        test.text = Files.readString(README);
        test.namesTheFace();
        test.namesTheTerms();
        test.namesEveryTest();
        test.examples();
        test.checks.end("ReadmeTest");
    }

    /** Each call with its parameters, as the document writes them without types. */
    private void namesTheFace() throws IOException {
        Matcher face = Pattern.compile("public (?:int|long) (\\w+)\\((.*)\\);").matcher(Files.readString(Path.of("../shared/DOC.md")));
        int calls = 0;
        while (face.find()) {
            calls++;
            says("`" + face.group(1) + "(" + face.group(2).replaceAll("(int|long|boolean) ", "") + ")`");
        }
        checks.due("calls in the document's face", calls, 18);
        checks.due("calls in the class", publicMethods(), 18);
    }

    private static int publicMethods() {
        int number = 0;
        for (Method method : RoundedNumbers.class.getDeclaredMethods()) {
            number += Modifier.isPublic(method.getModifiers()) ? 1 : 0;
        }
        return number;
    }

    private void namesTheTerms() {
        says("`DONE` (" + RoundedNumbers.DONE + ")");
        says("`REFUSED` (" + RoundedNumbers.REFUSED + ")");
        says("`RANGE` (" + RoundedNumbers.RANGE + ")");
        says("`NONE` (" + RoundedNumbers.NONE + ")");
        says("LOST");
        says("NARROW");
        says("512 calls");
        says(".ci/run");
    }

    private void namesEveryTest() throws IOException {
        try (DirectoryStream<Path> files = Files.newDirectoryStream(TESTS, "*.java")) {
            for (Path file : files) {
                String name = file.getFileName().toString().replace(".java", "");
                // The tests of the promises stand there as the first and the last of their row.
                says(name.startsWith("Promise0") || name.startsWith("Promise1") ? "Promise01NewObjectTest" : name);
            }
        }
    }

    private void says(String part) {
        checks.due("README.md says " + part, text.contains(part) ? 1 : 0, 1);
    }

    private void examples() throws ReflectiveOperationException {
        RoundedNumbers x = null;
        boolean isJava = false;
        int calls = 0;
        for (String line : text.split("\n")) {
            if (line.startsWith("```")) {
                isJava = line.equals("```java");
            } else if (isJava && NEW_OBJECT.matcher(line).matches()) {
                x = new RoundedNumbers();
            } else if (isJava && !line.isEmpty()) {
                Matcher call = CALL.matcher(line);
                checks.due("an example with its answer: " + line, x != null && call.matches() ? 1 : 0, 1);
                if (x != null && call.matches()) {
                    checks.due(line, answer(x, call.group(1), call.group(2)), due(call.group(3)));
                    calls++;
                }
            }
        }
        checks.due("README.md has examples", calls > 0 ? 1 : 0, 1);
    }

    private static long due(String answer) throws ReflectiveOperationException {
        if (Character.isUpperCase(answer.charAt(0))) {
            return RoundedNumbers.class.getField(answer).getLong(null);
        }
        return Long.parseLong(answer);
    }

    private static long answer(RoundedNumbers x, String name, String arguments) throws InvocationTargetException, IllegalAccessException {
        for (Method method : RoundedNumbers.class.getMethods()) {
            if (method.getName().equals(name)) {
                return ((Number) method.invoke(x, values(method, arguments.split(", ")))).longValue();
            }
        }
        throw new IllegalArgumentException("there is no call " + name);
    }

    private static Object[] values(Method method, String[] texts) {
        Class<?>[] types = method.getParameterTypes();
        if (types.length != texts.length) {
            throw new IllegalArgumentException(method.getName() + " takes " + types.length + " arguments");
        }
        Object[] values = new Object[texts.length];
        for (int i = 0; i < texts.length; i++) {
            if (types[i] == boolean.class) {
                values[i] = Boolean.valueOf(texts[i]);
            } else if (types[i] == long.class) {
                values[i] = Long.valueOf(texts[i].replace("L", ""));
            } else {
                values[i] = Integer.valueOf(texts[i]);
            }
        }
        return values;
    }
}
