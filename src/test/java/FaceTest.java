import java.lang.reflect.Constructor;
import java.lang.reflect.Field;
import java.lang.reflect.Method;
import java.lang.reflect.Modifier;
import java.util.Arrays;
import java.util.TreeSet;

/** The public face is the document's and no more, and no call throws, whatever its arguments. */
public final class FaceTest {
    private static final String[] METHODS = {
        "int set(int, long, int)", "int add(int, int, int, boolean)", "int subtract(int, int, int, boolean)",
        "int multiply(int, int, int, boolean)", "int divide(int, int, int, boolean)", "int fuse(int, int, int, int)",
        "int fuseNarrow(int, int, int, int)", "int root(int, int, boolean)", "int remainder(int, int, int)",
        "int copy(int, int, boolean)", "int scale(int, int, int)", "int step(int, int, boolean, boolean)",
        "int cubeRoot(int, int)", "int compare(int, int)", "long odd(int)", "long exponent(int)",
        "long whole(int, boolean)", "int count(int)"};
    private static final int[] NUMBERS = {0, 7, 8, -1, Integer.MIN_VALUE, Integer.MAX_VALUE};

    private final Checks checks = new Checks();

    public static void main(String[] args) throws IllegalAccessException {
        FaceTest test = new FaceTest();
        test.constants();
        test.members();
        test.noCallThrows();
        test.checks.end("FaceTest");
    }

    private void constants() {
        checks.due("DONE", RoundedNumbers.DONE, 0);
        checks.due("REFUSED", RoundedNumbers.REFUSED, -1);
        checks.due("RANGE", RoundedNumbers.RANGE, -2);
        checks.due("NONE", RoundedNumbers.NONE, -4611686018427387904L);
    }

    private void members() throws IllegalAccessException {
        TreeSet<String> methods = new TreeSet<>();
        TreeSet<String> names = new TreeSet<>();
        for (Method method : RoundedNumbers.class.getDeclaredMethods()) {
            if (Modifier.isPrivate(method.getModifiers())) {
                continue;
            }
            StringBuilder text = new StringBuilder(method.getReturnType() + " " + method.getName() + "(");
            String[] types = Arrays.stream(method.getParameterTypes()).map(Class::getName).toArray(String[]::new);
            methods.add(text.append(String.join(", ", types)).append(")").toString());
            names.add(method.getName());
            checks.due(method + " is public and of an object", method.getModifiers(), Modifier.PUBLIC);
        }
        checks.due("the methods " + methods + " are the document's", methods.equals(new TreeSet<>(Arrays.asList(METHODS))) ? 1 : 0, 1);
        for (Method method : RoundedNumbers.class.getDeclaredMethods()) {
            boolean doubled = Modifier.isPrivate(method.getModifiers()) && names.contains(method.getName());
            checks.due(method + " bears a public name", doubled ? 1 : 0, 0);
        }
        TreeSet<String> fields = new TreeSet<>();
        for (Field field : RoundedNumbers.class.getDeclaredFields()) {
            boolean isStatic = Modifier.isStatic(field.getModifiers());
            checks.due(field + " is final if static", isStatic && !Modifier.isFinal(field.getModifiers()) ? 1 : 0, 0);
            if (!Modifier.isPrivate(field.getModifiers())) {
                fields.add(field.getType() + " " + field.getName());
                checks.due(field + " is a public constant", field.getModifiers(), Modifier.PUBLIC | Modifier.STATIC | Modifier.FINAL);
            }
        }
        checks.due("the fields " + fields, fields.equals(new TreeSet<>(Arrays.asList("int DONE", "int REFUSED", "int RANGE", "long NONE"))) ? 1 : 0, 1);
        Constructor<?>[] constructors = RoundedNumbers.class.getDeclaredConstructors();
        checks.due("constructors", constructors.length, 1);
        checks.due("its parameters", constructors[0].getParameterCount(), 0);
        checks.due("it is public", constructors[0].getModifiers(), Modifier.PUBLIC);
        checks.due("its interfaces", RoundedNumbers.class.getInterfaces().length, 0);
        checks.due("its class above is Object", RoundedNumbers.class.getSuperclass() == Object.class ? 1 : 0, 1);
        checks.due("the class is public and final", RoundedNumbers.class.getModifiers() & (Modifier.PUBLIC | Modifier.FINAL), Modifier.PUBLIC | Modifier.FINAL);
    }

    private void noCallThrows() {
        RoundedNumbers x = new RoundedNumbers();
        for (int a : NUMBERS) {
            for (int b : NUMBERS) {
                for (int c : NUMBERS) {
                    callAll(x, a, b, c, true);
                    callAll(x, a, b, c, false);
                    x = new RoundedNumbers();
                }
            }
        }
    }

    /** A call with a register number out of 0 .. 7 must say so; the others must only come back. */
    private void callAll(RoundedNumbers x, int a, int b, int c, boolean flag) {
        boolean two = known(a) && known(b);
        boolean three = two && known(c);
        x.set(0, 3, 0);
        x.set(7, -5, -1);
        refused("set", known(a), x.set(a, b, c), -1);
        refused("set", known(a), x.set(a, Long.MIN_VALUE, c), -1);
        refused("add", three, x.add(a, b, c, flag), -1);
        refused("subtract", three, x.subtract(a, b, c, flag), -1);
        refused("multiply", three, x.multiply(a, b, c, flag), -1);
        refused("divide", three, x.divide(a, b, c, flag), -1);
        refused("fuse", three, x.fuse(a, b, c, 1), -1);
        refused("fuse", three, x.fuse(1, a, b, c), -1);
        refused("fuseNarrow", three, x.fuseNarrow(a, b, c, 1), -1);
        refused("fuseNarrow", three, x.fuseNarrow(1, a, b, c), -1);
        refused("root", two, x.root(a, b, flag), -1);
        refused("remainder", three, x.remainder(a, b, c), -1);
        refused("copy", two, x.copy(a, b, flag), -1);
        refused("scale", two, x.scale(a, b, c), -1);
        refused("step", two, x.step(a, b, flag, true), -1);
        refused("step", two, x.step(a, b, flag, false), -1);
        refused("cubeRoot", two, x.cubeRoot(a, b), -1);
        refused("compare", two, x.compare(a, b), -2);
        refused("odd", known(a), x.odd(a), RoundedNumbers.NONE);
        refused("exponent", known(a), x.exponent(a), RoundedNumbers.NONE);
        refused("whole", known(a), x.whole(a, flag), RoundedNumbers.NONE);
        x.count(a);
    }

    private static boolean known(int r) {
        return r >= 0 && r <= 7;
    }

    private void refused(String call, boolean known, long answer, long due) {
        if (!known) {
            checks.due(call + " with a wrong register", answer, due);
        }
    }
}
