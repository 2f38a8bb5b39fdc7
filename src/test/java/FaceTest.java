import java.lang.reflect.Constructor;
import java.lang.reflect.Field;
import java.lang.reflect.Method;
import java.lang.reflect.Modifier;
import java.util.TreeSet;

/** The public face, as the document writes it, and rule 1 of LANGUAGE.md. */
final class FaceTest {
    private static final String STATE = " IllegalStateException";
    private static final String ELEMENT = " NoSuchElementException";
    private static final String OPERATION = " UnsupportedOperationException";
    private static final String ARGUMENT = " IllegalArgumentException";

    private static final String[] FACE = {
        "boolean spoil(int,int,int)",
        "int byteAt(int)",
        "int check(boolean)",
        "int count(int)",
        "int create()" + STATE + ELEMENT,
        "int keep()",
        "int link()" + STATE + ELEMENT + OPERATION,
        "int makeDirectory()" + STATE + ELEMENT,
        "int removeDirectory()" + STATE + ELEMENT + OPERATION + ARGUMENT,
        "int rename()" + STATE + ELEMENT + OPERATION + ARGUMENT,
        "int stat(int)" + STATE + ELEMENT + ARGUMENT,
        "int truncate(int)" + STATE + ELEMENT + OPERATION + ARGUMENT,
        "int type(char)",
        "int unlink()" + STATE + ELEMENT + OPERATION,
        "int write(int,int,long)" + STATE + ELEMENT + OPERATION + ARGUMENT,
        "long read(int)" + STATE + ELEMENT + OPERATION + ARGUMENT,
        "void format()",
    };

    public static void main(String[] args) {
        Class<?> face = InodeDisk.class;
        Run.same("public and final", Modifier.toString(face.getModifiers()), "public final");
        Run.same("no package", face.getPackageName(), "");
        methods(face);
        for (Field field : face.getDeclaredFields()) {
            Run.same("private: " + field, Modifier.isPrivate(field.getModifiers()), true);
            Run.same("final: " + field, Modifier.isFinal(field.getModifiers()), true);
        }
        Constructor<?>[] constructors = face.getDeclaredConstructors();
        Run.same("constructors", constructors.length, 1);
        Run.same("constructor", constructors[0].toString(), "public InodeDisk()");
        Run.end();
    }

    private static void methods(Class<?> face) {
        TreeSet<String> open = new TreeSet<>();
        TreeSet<String> names = new TreeSet<>();
        for (Method method : face.getDeclaredMethods()) {
            if (!Modifier.isPrivate(method.getModifiers())) {
                Run.same("public: " + method, Modifier.toString(method.getModifiers()), "public");
                open.add(signature(method));
                names.add(method.getName());
            }
        }
        Run.same("methods", String.join("\n", open), String.join("\n", FACE));
        for (Method method : face.getDeclaredMethods()) {
            boolean isPrivate = Modifier.isPrivate(method.getModifiers());
            Run.same("name of " + method, isPrivate && names.contains(method.getName()), false);
        }
    }

    /** A method with its parameters and, behind them, what it is declared to throw. */
    private static String signature(Method method) {
        StringBuilder text = new StringBuilder();
        text.append(method.getReturnType()).append(" ").append(method.getName()).append("(");
        Class<?>[] parameters = method.getParameterTypes();
        for (int i = 0; i < parameters.length; i++) {
            text.append(i == 0 ? "" : ",").append(parameters[i]);
        }
        text.append(")");
        for (Class<?> exception : method.getExceptionTypes()) {
            text.append(" ").append(exception.getSimpleName());
        }
        return text.toString();
    }
}
