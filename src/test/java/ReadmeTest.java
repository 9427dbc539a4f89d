import java.io.ByteArrayOutputStream;
import java.io.File;
import java.io.IOException;
import java.io.PrintStream;
import java.lang.reflect.Method;
import java.lang.reflect.Modifier;
import java.net.URL;
import java.net.URLClassLoader;
import java.nio.file.Files;
import java.nio.file.Path;
import java.util.Comparator;
import java.util.List;
import java.util.stream.Collectors;
import java.util.stream.Stream;
import javax.tools.ToolProvider;

/** README.md: its program prints what it says, and no test or call is left out. */
public final class ReadmeTest {
    private static final Path SOURCE = Path.of("src", "main", "java", "TablePacker.java");
    private static final Path TESTS = Path.of("src", "test", "java");

    public static void main(String[] args) throws IOException, ReflectiveOperationException {
        String readme = Files.readString(Path.of("README.md"));
        Path directory = Files.createTempDirectory("readme");
        try {
            String printed = runExample(blockOf(readme, "java"), directory);
            String told = blockOf(readme, "text");
            Due.due("the program prints what README.md tells, not:\n" + printed, printed.equals(told));
        } finally {
            remove(directory);
        }
        for (Method method : TablePacker.class.getDeclaredMethods()) {
            if (Modifier.isPublic(method.getModifiers())) {
                Due.due("README.md has the call " + method.getName(), readme.contains("`" + method.getName() + "("));
            }
        }
        for (String test : testNames()) {
            Due.due("README.md has a line for " + test, readme.contains("\n| " + test + " | "));
        }
        Due.end();
    }

    /** The first block of a language, without its fences. */
    private static String blockOf(String readme, String language) {
        String fence = "```" + language + "\n";
        int from = readme.indexOf(fence);
        Due.due("README.md has a block of " + language, from >= 0);
        return from < 0 ? "" : readme.substring(from + fence.length(), readme.indexOf("```", from + fence.length()));
    }

    private static String runExample(String program, Path directory) throws IOException, ReflectiveOperationException {
        Path file = directory.resolve("Example.java");
        Files.writeString(file, program);
        int answer = ToolProvider.getSystemJavaCompiler().run(null, null, null, "-d", directory.toString(),
            SOURCE.toString(), file.toString());
        Due.due("the program is compiled", answer, 0);
        ByteArrayOutputStream bytes = new ByteArrayOutputStream();
        PrintStream before = System.out;
        URL[] classes = {directory.toUri().toURL()};
        try (URLClassLoader loader = new URLClassLoader(classes, ClassLoader.getPlatformClassLoader())) {
            System.setOut(new PrintStream(bytes, true));
            loader.loadClass("Example").getMethod("main", String[].class).invoke(null, (Object) new String[0]);
        } finally {
            System.setOut(before);
        }
        return bytes.toString().replace(System.lineSeparator(), "\n");
    }

    private static List<String> testNames() throws IOException {
        try (Stream<Path> files = Files.list(TESTS)) {
            return files.map(file -> file.getFileName().toString()).filter(name -> name.endsWith("Test.java"))
                .map(name -> name.substring(0, name.length() - ".java".length())).collect(Collectors.toList());
        }
    }

    private static void remove(Path directory) throws IOException {
        try (Stream<Path> files = Files.walk(directory)) {
            files.sorted(Comparator.reverseOrder()).map(Path::toFile).forEach(File::delete);
        }
    }
}
