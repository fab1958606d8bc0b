import java.io.ByteArrayOutputStream;
import java.io.IOException;
import java.io.PrintStream;
import java.net.URL;
import java.net.URLClassLoader;
import java.nio.charset.StandardCharsets;
import java.nio.file.Files;
import java.nio.file.Path;
import java.util.Comparator;
import java.util.List;
import java.util.stream.Stream;
import javax.tools.ToolProvider;

/** The program of README.md: it can be compiled, and prints what README.md says. */
public final class ReadmeTest {
    private static final String EXAMPLE = "Example";

    public static void main(String[] args) throws Exception {
        List<String> readme = Files.readAllLines(Path.of("README.md"));
        Path directory = Files.createTempDirectory("readme");
        try {
            check(block(readme, "java"), block(readme, "text"), directory);
        } finally {
            remove(directory);
        }
    }

    private static void check(String program, String due, Path directory) throws Exception {
        if (program.isEmpty() || due.isEmpty()) {
            fail("README.md has no program, or does not say what it prints");
        } else if (!isCompiled(program, directory)) {
            fail("the program of README.md cannot be compiled");
        } else {
            String printed = printedBy(directory);
            if (!printed.equals(due)) {
                fail("the program of README.md printed\n" + printed + "due is\n" + due);
            }
        }
    }

    /** The lines of the first block in this language. */
    private static String block(List<String> lines, String language) {
        StringBuilder block = new StringBuilder();
        int start = lines.indexOf("```" + language);
        for (int i = start + 1; start >= 0 && i < lines.size() && !lines.get(i).equals("```"); i++) {
            block.append(lines.get(i)).append("\n");
        }
        return block.toString();
    }

    private static boolean isCompiled(String program, Path directory) throws IOException {
        Path source = directory.resolve(EXAMPLE + ".java");
        Files.writeString(source, program);
        return ToolProvider.getSystemJavaCompiler().run(null, null, null, "-Xlint:all", "-Werror",
            "-d", directory.toString(), "src/main/java/Tillhouse.java", source.toString()) == 0;
    }

    private static String printedBy(Path directory) throws Exception {
        ByteArrayOutputStream printed = new ByteArrayOutputStream();
        PrintStream out = System.out;
        URL[] classes = {directory.toUri().toURL()};
        // the program finds the class that was compiled with it, and no other
        try (URLClassLoader loader = new URLClassLoader(classes, ClassLoader.getPlatformClassLoader())) {
            System.setOut(new PrintStream(printed, true, StandardCharsets.UTF_8));
            loader.loadClass(EXAMPLE).getMethod("main", String[].class).invoke(null, (Object) new String[0]);
        } finally {
            System.setOut(out);
        }
        return printed.toString(StandardCharsets.UTF_8).replace(System.lineSeparator(), "\n");
    }

    private static void remove(Path directory) throws IOException {
        try (Stream<Path> found = Files.walk(directory)) {
            for (Path each : found.sorted(Comparator.reverseOrder()).toList()) {
                Files.delete(each);
            }
        }
    }

    private static void fail(String what) {
        // not System.exit: the directory is still to be removed
        throw new IllegalStateException(what);
    }
}
