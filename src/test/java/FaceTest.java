import java.lang.reflect.Constructor;
import java.lang.reflect.Field;
import java.lang.reflect.Method;
import java.lang.reflect.Modifier;
import java.util.Arrays;
import java.util.List;
import java.util.TreeSet;

/**
 * The public face: the constants, constructor and methods of the document with their modifiers, and
 * nothing else to be seen; and what a class shows of itself of LANGUAGE.md, rules 1, 2, 4, 5, 6 and
 * 10. The modifiers are compared because the tests share the class's package, where a member that
 * is no longer public can still be called.
 */
public final class FaceTest {
    private static final String[] CONSTANTS = {
        "public static final int BUDGET = 0", "public static final int HALTED = 1",
        "public static final int NO_CODE = 2", "public static final int OUTSIDE = 3",
        "public static final int NO_READ = 4", "public static final int NO_WRITE = 5",
        "public static final int DIVIDE = 6", "public static final int BAD_OP = -1",
        "public static final int NO_ROOM = -2", "public static final int EMPTY = -3",
        "public static final int BAD_INDEX = -4", "public static final int BAD_RIGHTS = -5"
    };
    private static final String[] METHODS = {
        "public int emit(int,int,int,int)", "public int drop()", "public int setReg(int,int)",
        "public void setFlags(int)", "public int poke(int,int)", "public int setPage(int,int)",
        "public void jump(int)", "public int run(int)", "public void reset()",
        "public int reg(int)", "public int flags()", "public int peek(int)", "public int pc()",
        "public int steps()", "public int where()"
    };
    private static final List<Class<?>> TYPES = List.of(int.class, long.class, short.class,
            byte.class, char.class, boolean.class, int[].class, long[].class, short[].class,
            byte[].class, char[].class, boolean[].class);
    private static final Class<PreciseTranslator> FACE = PreciseTranslator.class;

    public static void main(String[] args) throws Exception {
        constants();
        methods();
        constructor();
        classItself();
        fieldsInside();
        methodsInside();
        Checks.finish();
    }

    private static void constants() throws Exception {
        TreeSet<String> seen = new TreeSet<>();
        for (Field field : FACE.getDeclaredFields()) {
            int modifiers = field.getModifiers();
            if (!Modifier.isPrivate(modifiers)) {
                String value = Modifier.isStatic(modifiers) ? " = " + field.get(null) : "";
                seen.add(Modifier.toString(modifiers) + " " + field.getType().getName() + " "
                        + field.getName() + value);
            }
        }
        Checks.same("visible fields", seen.toString(), sorted(CONSTANTS));
    }

    private static void methods() {
        TreeSet<String> seen = new TreeSet<>();
        for (Method method : FACE.getDeclaredMethods()) {
            if (!Modifier.isPrivate(method.getModifiers())) {
                seen.add(Modifier.toString(method.getModifiers()) + " " + method.getReturnType()
                        + " " + method.getName() + parameters(method.getParameterTypes()));
                Checks.due(method.getName() + " throws", method.getExceptionTypes().length, 0);
            }
        }
        Checks.same("visible methods", seen.toString(), sorted(METHODS));
    }

    private static void constructor() {
        Constructor<?>[] all = FACE.getDeclaredConstructors();
        Checks.due("number of constructors", all.length, 1);
        Checks.same("constructor", Modifier.toString(all[0].getModifiers())
                + parameters(all[0].getParameterTypes()), "public(int,int)");
        Checks.due("constructor throws", all[0].getExceptionTypes().length, 0);
    }

    private static void classItself() {
        Checks.same("class", Modifier.toString(FACE.getModifiers()), "public final");
        Checks.same("package", FACE.getPackageName(), "");
        Checks.same("class above", FACE.getSuperclass().getName(), "java.lang.Object");
        Checks.due("interfaces", FACE.getInterfaces().length, 0);
        Checks.due("nested classes", FACE.getDeclaredClasses().length, 0);
    }

    private static void fieldsInside() {
        int ofTheObject = 0;
        for (Field field : FACE.getDeclaredFields()) {
            String what = "field " + field.getName();
            int modifiers = field.getModifiers();
            Checks.holds(what + " has an allowed type", TYPES.contains(field.getType()));
            if (Modifier.isStatic(modifiers)) {
                Checks.holds(what + " is a final int or long", Modifier.isFinal(modifiers)
                        && (field.getType() == int.class || field.getType() == long.class));
            } else {
                ofTheObject++;
            }
        }
        Checks.holds("at most forty fields beside the constants", ofTheObject <= 40);
    }

    private static void methodsInside() {
        TreeSet<String> visible = new TreeSet<>();
        for (String method : METHODS) {
            visible.add(method.substring(method.lastIndexOf(' ') + 1, method.indexOf('(')));
        }
        for (Method method : FACE.getDeclaredMethods()) {
            String what = "method " + method.getName();
            int modifiers = method.getModifiers();
            Checks.holds(what + " bears no public name",
                    !Modifier.isPrivate(modifiers) || !visible.contains(method.getName()));
            Checks.holds(what + " is not synchronized", !Modifier.isSynchronized(modifiers));
            Checks.holds(what + " answers no array", !method.getReturnType().isArray());
            Checks.holds(what + " answers an allowed type", method.getReturnType() == void.class
                    || TYPES.contains(method.getReturnType()));
            Checks.holds(what + " takes at most seven", method.getParameterCount() <= 7);
            Checks.holds(what + " takes allowed types",
                    TYPES.containsAll(Arrays.asList(method.getParameterTypes())));
        }
    }

    private static String parameters(Class<?>[] types) {
        StringBuilder text = new StringBuilder("(");
        for (int i = 0; i < types.length; i++) {
            text.append(i == 0 ? "" : ",").append(types[i].getName());
        }
        return text.append(')').toString();
    }

    private static String sorted(String[] names) {
        return new TreeSet<>(Arrays.asList(names)).toString();
    }
}
