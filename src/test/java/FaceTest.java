import java.lang.reflect.Constructor;
import java.lang.reflect.Field;
import java.lang.reflect.Method;
import java.lang.reflect.Modifier;
import java.util.TreeSet;

/** The public face, as the document writes it, and rule 1 of LANGUAGE.md. */
final class FaceTest {
    private static final String[] FACE = {
        "boolean spoil(int,int,int)",
        "int byteAt(int)",
        "int check(boolean)",
        "int count(int)",
        "int create()",
        "int keep()",
        "int link()",
        "int makeDirectory()",
        "int removeDirectory()",
        "int rename()",
        "int stat(int)",
        "int truncate(int)",
        "int type(char)",
        "int unlink()",
        "int write(int,int,long)",
        "long read(int)",
        "void format()",
    };

    public static void main(String[] args) {
        Class<?> face = InodeDisk.class;
        Run.same("public and final", Modifier.toString(face.getModifiers()), "public final");
        Run.same("no package", face.getPackageName(), "");
        TreeSet<String> open = new TreeSet<>();
        TreeSet<String> names = new TreeSet<>();
        for (Method method : face.getDeclaredMethods()) {
            if (!Modifier.isPrivate(method.getModifiers())) {
                open.add(signature(method));
                names.add(method.getName());
            }
        }
        Run.same("methods", String.join("\n", open), String.join("\n", FACE));
        for (Method method : face.getDeclaredMethods()) {
            boolean isPrivate = Modifier.isPrivate(method.getModifiers());
            Run.same("name of " + method, isPrivate && names.contains(method.getName()), false);
        }
        for (Field field : face.getDeclaredFields()) {
            Run.same("private: " + field, Modifier.isPrivate(field.getModifiers()), true);
            Run.same("final: " + field, Modifier.isFinal(field.getModifiers()), true);
        }
        Constructor<?>[] constructors = face.getDeclaredConstructors();
        Run.same("constructors", constructors.length, 1);
        Run.same("constructor", constructors[0].toString(), "public InodeDisk()");
        Run.end();
    }

    private static String signature(Method method) {
        StringBuilder text = new StringBuilder();
        text.append(method.getReturnType()).append(" ").append(method.getName()).append("(");
        Class<?>[] parameters = method.getParameterTypes();
        for (int i = 0; i < parameters.length; i++) {
            text.append(i == 0 ? "" : ",").append(parameters[i]);
        }
        Run.same("public: " + method, Modifier.toString(method.getModifiers()), "public");
        return text + ")";
    }
}
