import java.lang.management.ManagementFactory;
import java.lang.reflect.Constructor;
import java.lang.reflect.Field;
import java.lang.reflect.Method;
import java.lang.reflect.Modifier;
import java.nio.file.Files;
import java.nio.file.Path;
import java.util.ArrayList;
import java.util.List;
import java.util.Set;
import java.util.TreeSet;

/** The public face, what the language rules out, how little the calls make, and odd arguments of every call. */
public final class FaceTest {
    private static final Check check = new Check();
    private static final String NO_SUCH = " IndexOutOfBoundsException";
    private static final String WRONG = " IllegalArgumentException";
    private static final String NOT_NOW = " IllegalStateException";
    /** The exceptions stand in the order of the throws clause. */
    private static final Set<String> FACE = Set.of("int proclaim()" + WRONG, "int forget()" + NOT_NOW,
        "int rank(int,int)" + NO_SUCH + WRONG, "int teach(int,int)" + WRONG, "int carve(int,int)" + WRONG,
        "int burn(int)" + NO_SUCH, "int set(int)" + WRONG, "int append(int)" + WRONG + NOT_NOW, "int clearBuffer()",
        "int firstError()", "int undo()" + NOT_NOW, "int day(int,int,int)" + WRONG,
        "int feast(int,int)" + NO_SUCH + WRONG, "int when(int,int,int,boolean)" + NO_SUCH + WRONG,
        "int settled(int,int)" + NO_SUCH + WRONG, "int quarrels(int)" + WRONG, "int stick(int,int)" + NO_SUCH + WRONG,
        "int count(int)" + WRONG, "int range(int,int,int,boolean)" + NO_SUCH + WRONG, "int alike(int)" + WRONG,
        "int peace(int,int)" + WRONG, "int moved(int,int)" + WRONG, "double freshShare()", "long digest()");
    private static final Set<String> THROWN = Set.of("IllegalStateException", "IllegalArgumentException",
        "IndexOutOfBoundsException");
    private static final int[] ODD = {Integer.MIN_VALUE, -1001, -91, -6, -1, 0, 1, 2, 5, 10, 33, 126, 365, 366, 400, 999,
        1000, Integer.MAX_VALUE - 1, Integer.MAX_VALUE};

    public static void main(String[] args) throws Exception {
        face();
        language();
        shape();
        lengths();
        room();
        oddArguments();
        check.finish("FaceTest");
    }

    private static void face() {
        Set<String> methods = new TreeSet<>();
        Set<String> publicNames = new TreeSet<>();
        for (Method m : RunicSticks.class.getDeclaredMethods()) {
            if (!Modifier.isPrivate(m.getModifiers())) {
                methods.add(signature(m));
                publicNames.add(m.getName());
                check.same(m.getName() + " is public", Modifier.isPublic(m.getModifiers()) ? 1 : 0, 1);
            }
        }
        check.same("the methods", methods.toString(), new TreeSet<>(FACE).toString());
        for (Method m : RunicSticks.class.getDeclaredMethods()) {
            boolean borrowed = Modifier.isPrivate(m.getModifiers()) && publicNames.contains(m.getName());
            check.same(m.getName() + " is a private method with a public name", borrowed ? 1 : 0, 0);
        }
        for (Field f : RunicSticks.class.getDeclaredFields()) {
            int due = f.getName().equals("NONE") ? Modifier.PUBLIC : Modifier.PRIVATE;
            check.same("the field " + f.getName(), f.getModifiers() & (Modifier.PUBLIC | Modifier.PRIVATE), due);
        }
        for (Constructor<?> c : RunicSticks.class.getDeclaredConstructors()) {
            check.same("the constructor " + c, c.toString(), "public RunicSticks()");
        }
        check.same("the class is final", Modifier.isFinal(RunicSticks.class.getModifiers()) ? 1 : 0, 1);
    }

    private static String signature(Method m) {
        StringBuilder s = new StringBuilder(m.getReturnType().getName()).append(' ').append(m.getName()).append('(');
        String between = "";
        for (Class<?> type : m.getParameterTypes()) {
            s.append(between).append(type.getName());
            between = ",";
        }
        s.append(')');
        for (Class<?> thrown : m.getExceptionTypes()) {
            s.append(' ').append(thrown.getSimpleName());
        }
        return s.toString();
    }

    private static void language() throws Exception {
        String source = Files.readString(Path.of("src/main/java/RunicSticks.java"));
        for (String word : new String[] {"import ", "->", "::", "catch", "finally", "Double", "Math.", "synchronized",
            "assert ", "package ", "System.", "static {", "\" +", "+ \"", "Float", ".equals(", "instanceof"}) {
            check.same("the source has '" + word + "'", source.indexOf(word), -1);
        }
        check.same("the source's signs are 1 to 127", source.chars().filter(c -> c < 1 || c > 127).count(), 0);
        for (String thrown : source.split("throw new ", -1)) {
            String name = thrown.substring(0, Math.max(0, thrown.indexOf('(')));
            boolean begins = source.startsWith(thrown);
            check.same("throws " + name, begins || THROWN.contains(name) ? 1 : 0, 1);
        }
    }

    /** Rules 1, 2, 5 and 11: how many classes, fields and parameters there are, and what is static. */
    private static void shape() {
        List<Class<?>> classes = new ArrayList<>(List.of(RunicSticks.class.getDeclaredClasses()));
        for (Class<?> inside : classes) {
            int modifiers = inside.getModifiers();
            check.same(inside + " is private and static",
                Modifier.isPrivate(modifiers) && Modifier.isStatic(modifiers) ? 1 : 0, 1);
        }
        classes.add(RunicSticks.class);
        check.same("classes: " + classes.size(), classes.size() <= 12 ? 1 : 0, 1);
        for (Class<?> one : classes) {
            int fields = 0;
            for (Field f : one.getDeclaredFields()) {
                boolean isStatic = Modifier.isStatic(f.getModifiers());
                check.same(f + " is final if static", !isStatic || Modifier.isFinal(f.getModifiers()) ? 1 : 0, 1);
                fields += isStatic ? 0 : 1;
            }
            check.same("fields of " + one + ": " + fields, fields <= 20 ? 1 : 0, 1);
            for (Method m : one.getDeclaredMethods()) {
                check.same("parameters of " + m, m.getParameterCount() <= 7 ? 1 : 0, 1);
                check.same("handed-over variables in " + m, m.isSynthetic() ? 1 : 0, 0);
            }
        }
    }

    /** Rule 11: methods stay short. A member begins and ends at the same indentation. */
    private static void lengths() throws Exception {
        List<String> lines = Files.readAllLines(Path.of("src/main/java/RunicSticks.java"));
        for (int depth = 4; depth <= 8; depth += 4) {
            String begin = " ".repeat(depth);
            int from = -1;
            for (int i = 0; i < lines.size(); i++) {
                String line = lines.get(i);
                if (line.equals(begin + "}") && from >= 0) {
                    check.same("lines of " + lines.get(from).trim() + " " + (i - from + 1), i - from < 60 ? 1 : 0, 1);
                    from = -1;
                } else if (line.startsWith(begin) && line.charAt(depth) != ' ' && line.contains("(")
                        && line.endsWith("{")) {
                    from = i;
                }
            }
        }
    }

    /** A run's objects stay few: the calls use the rows that the constructor has made. */
    private static void room() {
        com.sun.management.ThreadMXBean bean = (com.sun.management.ThreadMXBean) ManagementFactory.getThreadMXBean();
        RunicSticks x = Check.calendar("m0,1;m9,2;m99,3;m200,4;w5,5;w300,6;d50;a0+7;a1-3;d365", -5, 0, 5);
        long before = bean.getCurrentThreadAllocatedBytes();
        for (int call = 0; call < 200; call++) {
            x.carve(call, 1);
            x.digest();
        }
        long made = bean.getCurrentThreadAllocatedBytes() - before;
        check.same("400 calls make under 64 KiB: " + made, made < 65536 ? 1 : 0, 1);
    }

    private static RunicSticks odd;
    private static int oddCalls;

    private static void oddArguments() throws Exception {
        for (String text : new String[] {"d0", "m0,0;a0+90;w365,6;d365;d365"}) {
            for (Method m : RunicSticks.class.getDeclaredMethods()) {
                if (Modifier.isPublic(m.getModifiers())) {
                    oddCalls = 0;
                    oddArgument(text, m, new Object[m.getParameterCount()], 0);
                }
            }
        }
    }

    private static void oddArgument(String text, Method m, Object[] given, int at) throws Exception {
        if (at < given.length) {
            boolean isFlag = m.getParameterTypes()[at] == boolean.class;
            for (int value : ODD) {
                given[at] = isFlag ? (Object) (value > 0) : (Object) value;
                oddArgument(text, m, given, at + 1);
            }
            return;
        }
        if (oddCalls % 400 == 0) {
            odd = Check.calendar(text, 5, -5, 0);
            odd.carve(0, 1);
        }
        oddCalls++;
        check.same(m.getName() + java.util.Arrays.toString(given), badAnswer(m, given), "");
    }

    /** What the call throws, if its throws clause does not name it. */
    private static String badAnswer(Method m, Object[] given) throws Exception {
        try {
            m.invoke(odd, given);
            return "";
        } catch (java.lang.reflect.InvocationTargetException e) {
            boolean named = Set.of(m.getExceptionTypes()).contains(e.getCause().getClass());
            return named ? "" : e.getCause().toString();
        }
    }
}
