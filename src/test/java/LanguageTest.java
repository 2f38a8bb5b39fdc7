import java.lang.reflect.Constructor;
import java.lang.reflect.Executable;
import java.lang.reflect.Field;
import java.lang.reflect.Method;
import java.lang.reflect.Modifier;
import java.nio.file.Files;
import java.nio.file.Path;
import java.util.ArrayList;
import java.util.List;
import java.util.regex.Matcher;
import java.util.regex.Pattern;

/** Those rules of LANGUAGE.md that can be seen in the compiled classes, or in single lines. */
final class LanguageTest {
    private static final String PROGRAM = "src/main/java/InodeDisk.java";

    private static final List<Class<?>> CONSTANTS = List.of(int.class, long.class, boolean.class,
            char.class, String.class, int[].class, long[].class, char[].class, byte[].class);

    private static final String[] RULED_OUT = {
        "->", "::", "\\bfinally\\b", "\\bsynchronized\\b", "\\bassert\\b", "\\bgetMessage\\b",
        "\\btoString\\b", "\\bhashCode\\b", "\\w+Exact\\b", "\\bpackage\\b", "\\bstatic \\{",
        "\\bSystem\\.(?!arraycopy\\b)", "\\bThread\\b", "\\bRandom\\b", "\\bmain\\b",
    };

    private static final Pattern THROWN = Pattern.compile("throw new \\w+\\((\"[^\"]*\")?\\);");

    public static void main(String[] args) throws Exception {
        List<Class<?>> classes = new ArrayList<>(List.of(InodeDisk.class.getDeclaredClasses()));
        for (Class<?> inside : classes) {
            int modifiers = inside.getModifiers();
            Run.same("static: " + inside, Modifier.isStatic(modifiers), true);
            Run.same("not open: " + inside,
                    Modifier.isPublic(modifiers) || Modifier.isProtected(modifiers), false);
            Run.same("none inside: " + inside, inside.getDeclaredClasses().length, 0);
        }
        classes.add(InodeDisk.class);
        Run.same("at most twelve classes", classes.size() <= 12, true);
        for (Class<?> one : classes) {
            fields(one);
            methods(one);
        }
        for (String line : Files.readAllLines(Path.of(PROGRAM))) {
            line(line);
        }
        Run.end();
    }

    private static void fields(Class<?> one) {
        int ofObjects = 0;
        for (Field field : one.getDeclaredFields()) {
            if (!Modifier.isStatic(field.getModifiers())) {
                ofObjects++;
                continue;
            }
            Run.same("final: " + field, Modifier.isFinal(field.getModifiers()), true);
            Run.same("a constant: " + field, CONSTANTS.contains(field.getType()), true);
        }
        Run.same("at most twenty fields: " + one, ofObjects <= 20, true);
    }

    private static void methods(Class<?> one) {
        for (Constructor<?> constructor : one.getDeclaredConstructors()) {
            parameters(constructor);
        }
        for (Method method : one.getDeclaredMethods()) {
            parameters(method);
            Run.same("no native code: " + method, Modifier.isNative(method.getModifiers()), false);
        }
    }

    private static void parameters(Executable called) {
        Run.same("at most seven parameters: " + called, called.getParameterCount() <= 7, true);
    }

    private static void line(String line) {
        String code = line.strip();
        if (code.startsWith("//") || code.startsWith("/*") || code.startsWith("*")) {
            return;
        }
        for (String word : RULED_OUT) {
            Matcher found = Pattern.compile(word).matcher(code);
            Run.same(word + " in: " + code, found.find(), false);
        }
        if (code.startsWith("import ")) {
            Run.same("the import", code, "import java.util.NoSuchElementException;");
        }
        if (code.contains("throw ")) {
            Run.same("an exception made where it is thrown: " + code,
                    THROWN.matcher(code).matches(), true);
        }
        for (int i = 0; i < code.length(); i++) {
            Run.same("characters 0 to 255: " + code, code.charAt(i) <= 255, true);
        }
    }
}
