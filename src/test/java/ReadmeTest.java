import java.io.ByteArrayOutputStream;
import java.io.IOException;
import java.io.PrintStream;
import java.net.URL;
import java.net.URLClassLoader;
import java.nio.file.Files;
import java.nio.file.Path;
import javax.tools.JavaCompiler;
import javax.tools.ToolProvider;

/** README.md's example compiles and prints what README.md says it does, and README.md tells of every call and test. */
public final class ReadmeTest {
    private static final Check c = new Check();

    private ReadmeTest() {
    }

    public static void main(String[] args) throws Exception {
        String readme = Files.readString(Path.of("README.md")).replace("\r", "");
        exampleAnswersAsSaid(readme);
        tellsOfEveryCall(readme);
        tellsOfEveryTest(readme);
        c.end();
    }

    private static void exampleAnswersAsSaid(String readme) throws Exception {
        c.part("the example");
        Path folder = Files.createTempDirectory("readme");
        boolean isCompiled = compiles(folder, block(readme, "java"));
        c.due("compiles", isCompiled, true);
        if (isCompiled) {
            String printed = printed(folder);
            String said = block(readme, "text");
            c.due("prints something", printed.isEmpty(), false);
            c.due("prints what README.md says", printed.equals(said), true);
            if (!printed.equals(said)) {
                System.out.println("printed:\n" + printed + "said:\n" + said);
            }
        }
    }

    /** What stands in the first block of a kind. */
    private static String block(String readme, String kind) {
        String opening = "```" + kind + "\n";
        int from = readme.indexOf(opening);
        int till = from < 0 ? -1 : readme.indexOf("```\n", from + opening.length());
        return till < 0 ? "" : readme.substring(from + opening.length(), till);
    }

    private static boolean compiles(Path folder, String source) throws IOException {
        Path file = folder.resolve("Example.java");
        Files.writeString(file, source);
        JavaCompiler compiler = ToolProvider.getSystemJavaCompiler();
        String path = System.getProperty("java.class.path");
        return compiler.run(null, null, null, "-cp", path, "-d", folder.toString(), file.toString()) == 0;
    }

    private static String printed(Path folder) throws Exception {
        ByteArrayOutputStream bytes = new ByteArrayOutputStream();
        PrintStream ahead = System.out;
        System.setOut(new PrintStream(bytes, true));
        try (URLClassLoader loader = new URLClassLoader(new URL[] {folder.toUri().toURL()})) {
            loader.loadClass("Example").getMethod("main", String[].class).invoke(null, (Object) new String[0]);
        } finally {
            System.setOut(ahead);
        }
        return bytes.toString().replace("\r", "");
    }

    private static void tellsOfEveryCall(String readme) {
        c.part("every call has its place in README.md's table");
        for (java.lang.reflect.Method method : RopeWalk.class.getDeclaredMethods()) {
            if (java.lang.reflect.Modifier.isPublic(method.getModifiers())) {
                c.due(method.getName(), readme.contains("`" + method.getName() + "`"), true);
            }
        }
    }

    private static void tellsOfEveryTest(String readme) throws IOException {
        c.part("how to run the tests");
        c.due(".ci/run", block(readme, "sh").equals(".ci/run\n"), true);
        try (var files = Files.list(Path.of("src/test/java"))) {
            for (Path file : files.toList()) {
                String name = file.getFileName().toString().replace(".java", "");
                if (name.endsWith("Test")) {
                    c.due(name, readme.contains(name), true);
                }
            }
        }
    }
}
