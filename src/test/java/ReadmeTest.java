import java.net.URL;
import java.net.URLClassLoader;
import java.nio.file.Files;
import java.nio.file.Path;
import java.util.List;
import java.util.regex.Matcher;
import java.util.regex.Pattern;
import java.util.stream.Stream;
import javax.tools.JavaCompiler;
import javax.tools.ToolProvider;

/** README.md: its example answers what is told there, and its table has every test. */
final class ReadmeTest {
    private static final Pattern ANSWER = Pattern.compile("int (\\w+) = .*; *// (-?\\d+)\\b");

    public static void main(String[] args) throws Exception {
        String readme = Files.readString(Path.of("README.md"));
        example(readme.split("```(java)?")[1]);
        for (String test : tests()) {
            String row = "\n| `" + test + "` |";
            Run.same("README.md tells of " + test, readme.contains(row), true);
        }
        Run.end();
    }

    private static void example(String code) throws Exception {
        StringBuilder names = new StringBuilder();
        StringBuilder due = new StringBuilder();
        Matcher answer = ANSWER.matcher(code);
        while (answer.find()) {
            names.append(" + \" \" + ").append(answer.group(1));
            due.append(" ").append(answer.group(2));
        }
        Run.same("the example tells answers", due.isEmpty(), false);
        String program = "public final class Example { public static String answers() {\n" + code
                + "return \"\"" + names + "; } }";
        Run.same("the example's answers", answers(program), due.toString());
    }

    /** Compiles a class Example beside the program, and asks it. */
    private static String answers(String program) throws Exception {
        Path folder = Files.createTempDirectory("readme");
        Path source = folder.resolve("Example.java");
        Path compiled = folder.resolve("Example.class");
        try {
            Files.writeString(source, program);
            JavaCompiler compiler = ToolProvider.getSystemJavaCompiler();
            int failed = compiler.run(null, null, null, "--release", "17", "-cp",
                    System.getProperty("java.class.path"), "-d", folder.toString(),
                    source.toString());
            if (failed != 0) {
                return "it doesn't compile";
            }
            try (URLClassLoader loader = new URLClassLoader(new URL[] {folder.toUri().toURL()})) {
                return "" + loader.loadClass("Example").getMethod("answers").invoke(null);
            }
        } finally {
            Files.deleteIfExists(source);
            Files.deleteIfExists(compiled);
            Files.delete(folder);
        }
    }

    private static List<String> tests() throws Exception {
        try (Stream<Path> files = Files.list(Path.of("src/test/java"))) {
            return files.map(file -> file.getFileName().toString())
                    .filter(name -> name.endsWith("Test.java"))
                    .map(name -> name.replace(".java", "")).sorted().toList();
        }
    }
}
