import java.lang.reflect.Constructor;
import java.lang.reflect.Field;
import java.lang.reflect.Method;
import java.lang.reflect.Modifier;
import java.util.TreeSet;

/** The public face: the constants and methods of the document, and nothing else to be seen. */
public final class FaceTest {
    private static final String[] CONSTANTS = {
        "BUDGET", "HALTED", "NO_CODE", "OUTSIDE", "NO_READ", "NO_WRITE", "DIVIDE",
        "BAD_OP", "NO_ROOM", "EMPTY", "BAD_INDEX", "BAD_RIGHTS"
    };
    private static final int[] VALUES = {0, 1, 2, 3, 4, 5, 6, -1, -2, -3, -4, -5};
    private static final String[] METHODS = {
        "int emit(int,int,int,int)", "int drop()", "int setReg(int,int)", "void setFlags(int)",
        "int poke(int,int)", "int setPage(int,int)", "void jump(int)", "int run(int)",
        "void reset()", "int reg(int)", "int flags()", "int peek(int)", "int pc()",
        "int steps()", "int where()"
    };

    public static void main(String[] args) throws Exception {
        constants();
        members();
        Checks.finish();
    }

    private static void constants() throws Exception {
        for (int i = 0; i < CONSTANTS.length; i++) {
            Field field = PreciseTranslator.class.getField(CONSTANTS[i]);
            Checks.due(CONSTANTS[i], field.getInt(null), VALUES[i]);
        }
    }

    private static void members() {
        TreeSet<String> fields = new TreeSet<>();
        for (Field field : PreciseTranslator.class.getDeclaredFields()) {
            if (!Modifier.isPrivate(field.getModifiers())) {
                fields.add(field.getName());
            }
        }
        Checks.same("visible fields", fields.toString(), sorted(CONSTANTS));

        TreeSet<String> methods = new TreeSet<>();
        for (Method method : PreciseTranslator.class.getDeclaredMethods()) {
            if (!Modifier.isPrivate(method.getModifiers())) {
                methods.add(method.getReturnType() + " " + method.getName()
                        + parameters(method.getParameterTypes()));
            }
        }
        Checks.same("visible methods", methods.toString(), sorted(METHODS));

        Constructor<?>[] constructors = PreciseTranslator.class.getDeclaredConstructors();
        Checks.due("number of constructors", constructors.length, 1);
        Checks.same("constructor", parameters(constructors[0].getParameterTypes()), "(int,int)");
        Checks.holds("constructor is public", Modifier.isPublic(constructors[0].getModifiers()));
        Checks.holds("class is public final",
                Modifier.isPublic(PreciseTranslator.class.getModifiers())
                && Modifier.isFinal(PreciseTranslator.class.getModifiers()));
        Checks.due("nested classes", PreciseTranslator.class.getDeclaredClasses().length, 0);
    }

    private static String parameters(Class<?>[] types) {
        StringBuilder text = new StringBuilder("(");
        for (int i = 0; i < types.length; i++) {
            text.append(i == 0 ? "" : ",").append(types[i].getName());
        }
        return text.append(')').toString();
    }

    private static String sorted(String[] names) {
        return new TreeSet<>(java.util.Arrays.asList(names)).toString();
    }
}
