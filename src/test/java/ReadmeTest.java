import java.io.ByteArrayOutputStream;
import java.io.IOException;
import java.io.PrintStream;
import java.lang.reflect.Method;
import java.net.URL;
import java.net.URLClassLoader;
import java.nio.file.Files;
import java.nio.file.Path;
import javax.tools.JavaCompiler;
import javax.tools.ToolProvider;

/** README.md: its example compiles and prints what stands behind it, and its table names every call. */
public final class ReadmeTest {
    public static void main(String[] args) throws Exception {
        String readme = Files.readString(Path.of("README.md"));
        Checks.is("what the example prints", block(readme, "text"), printedBy(block(readme, "java")));
        for (Method method : PageArchive.class.getMethods()) {
            if (method.getDeclaringClass() == PageArchive.class) {
                Checks.isTrue(method.getName() + " is named", readme.contains("`" + method.getName() + "`"));
            }
        }
        Checks.end();
    }

    private static String block(String readme, String kind) {
        String open = "```" + kind + "\n";
        int from = readme.indexOf(open) + open.length();
        return readme.substring(from, readme.indexOf("```", from));
    }

    private static String printedBy(String source) throws Exception {
        Path folder = Files.createTempDirectory("readme");
        Path file = folder.resolve("Example.java");
        try {
            Files.writeString(file, source);
            JavaCompiler compiler = ToolProvider.getSystemJavaCompiler();
            String classes = System.getProperty("java.class.path");
            int result = compiler.run(null, null, null, "-cp", classes, "-d", folder.toString(), file.toString());
            return result == 0 ? printedByMain(folder) : "it does not compile";
        } finally {
            Files.deleteIfExists(folder.resolve("Example.class"));
            Files.deleteIfExists(file);
            Files.deleteIfExists(folder);
        }
    }

    private static String printedByMain(Path folder) throws IOException, ReflectiveOperationException {
        PrintStream before = System.out;
        ByteArrayOutputStream printed = new ByteArrayOutputStream();
        try (URLClassLoader loader = new URLClassLoader(new URL[] {folder.toUri().toURL()})) {
            System.setOut(new PrintStream(printed, true));
            loader.loadClass("Example").getMethod("main", String[].class).invoke(null, (Object) new String[0]);
        } finally {
            System.setOut(before);
        }
        return printed.toString().replace("\r\n", "\n");
    }
}
