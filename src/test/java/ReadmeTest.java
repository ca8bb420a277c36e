import java.io.ByteArrayOutputStream;
import java.io.File;
import java.io.IOException;
import java.io.PrintStream;
import java.lang.reflect.Method;
import java.lang.reflect.Modifier;
import java.net.URL;
import java.net.URLClassLoader;
import java.nio.charset.StandardCharsets;
import java.nio.file.Files;
import java.nio.file.Path;
import javax.tools.ToolProvider;

/** Does what README.md says, from the project's folder: its example has to print what stands there. */
final class ReadmeTest {
    private static final Path README = Path.of("README.md");
    private static final String MARK = "```";

    private ReadmeTest() {
    }

    /** The lines of the first block that is opened by the mark and this word. */
    private static String block(String text, String word) {
        String opening = "\n" + MARK + word + "\n";
        int from = text.indexOf(opening);
        int to = from < 0 ? -1 : text.indexOf("\n" + MARK + "\n", from + opening.length());
        return to < 0 ? "" : text.substring(from + opening.length(), to + 1);
    }

    private static void compile(Path folder, String program) throws IOException {
        Path file = folder.resolve("Example.java");
        Files.writeString(file, program);
        int code = ToolProvider.getSystemJavaCompiler().run(null, null, null, "-nowarn", "-encoding", "UTF-8",
                "-d", folder.toString(), "src/main/java/PilotBook.java", file.toString());
        Check.same("exit code of javac", code, 0);
    }

    private static String printedBy(Path folder) throws IOException, ReflectiveOperationException {
        PrintStream before = System.out;
        ByteArrayOutputStream printed = new ByteArrayOutputStream();
        URL[] path = {folder.toUri().toURL()};
        // Its own classes alone, as for a reader who has nothing else on the class path.
        try (URLClassLoader loader = new URLClassLoader(path, ClassLoader.getPlatformClassLoader())) {
            System.setOut(new PrintStream(printed, true, StandardCharsets.UTF_8));
            loader.loadClass("Example").getMethod("main", String[].class).invoke(null, (Object) new String[0]);
        } finally {
            System.setOut(before);
        }
        return printed.toString(StandardCharsets.UTF_8).replace("\r\n", "\n");
    }

    private static void delete(Path folder) {
        File[] files = folder.toFile().listFiles();
        for (File file : files == null ? new File[0] : files) {
            file.delete();
        }
        folder.toFile().delete();
    }

    private static void example(String readme) throws IOException, ReflectiveOperationException {
        Path folder = Files.createTempDirectory("readme");
        try {
            compile(folder, block(readme, "java"));
            String due = block(readme, "text");
            Check.same("README.md tells what the example prints", due.isEmpty(), false);
            Check.same("what the example prints", printedBy(folder), due);
        } finally {
            delete(folder);
        }
    }

    /** Each call of the face, and each test of the project, has its place in a table. */
    private static void tables(String readme) {
        for (Method method : PilotBook.class.getDeclaredMethods()) {
            boolean isPublic = Modifier.isPublic(method.getModifiers());
            Check.same("README.md names " + method.getName(),
                    !isPublic || readme.contains("`" + method.getName() + "`"), true);
        }
        File[] files = new File("src/test/java").listFiles();
        Check.same("there are tests", files != null && files.length > 0, true);
        for (File file : files == null ? new File[0] : files) {
            String name = file.getName().replace(".java", "");
            Check.same("README.md names " + name, readme.contains("`" + name + "`"), true);
        }
    }

    public static void main(String[] args) throws IOException, ReflectiveOperationException {
        String readme = Files.readString(README).replace("\r\n", "\n");
        example(readme);
        tables(readme);
        Check.end();
    }
}
