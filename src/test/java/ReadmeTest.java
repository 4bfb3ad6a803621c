import java.io.ByteArrayOutputStream;
import java.io.PrintStream;
import java.lang.reflect.Method;
import java.lang.reflect.Modifier;
import java.net.URL;
import java.net.URLClassLoader;
import java.nio.file.Files;
import java.nio.file.Path;
import java.util.Comparator;
import java.util.List;
import java.util.stream.Stream;
import javax.tools.ToolProvider;

/** README.md: its example compiles and prints what it says, and each call of the class is named in it. */
final class ReadmeTest {
    private ReadmeTest() {
    }

    public static void main(String[] args) throws Exception {
        String readme = Files.readString(Path.of("README.md"));
        Check.under("README.md");
        for (Method method : PotatoStamps.class.getDeclaredMethods()) {
            if (Modifier.isPublic(method.getModifiers())) {
                Check.due("that it names " + method.getName(), true, readme.contains("`" + method.getName() + "`"));
            }
        }
        Path folder = Files.createTempDirectory("readme");
        try {
            Check.due("its example", block(readme, "text"), printedBy(block(readme, "java"), folder));
        } finally {
            remove(folder);
        }
        Check.end();
    }

    /** The lines between the fence that names the kind and the next one. */
    private static String block(String readme, String kind) {
        String fence = "```" + kind + "\n";
        int from = readme.indexOf(fence);
        int to = readme.indexOf("```", from + fence.length());
        return from < 0 || to < 0 ? "" : readme.substring(from + fence.length(), to);
    }

    private static String printedBy(String source, Path folder) throws Exception {
        Path file = Files.writeString(folder.resolve("Example.java"), source);
        String classes = System.getProperty("java.class.path");
        int compiled = ToolProvider.getSystemJavaCompiler()
            .run(null, null, null, "-cp", classes, "-d", folder.toString(), file.toString());
        if (compiled != 0) {
            return "the example does not compile";
        }
        PrintStream console = System.out;
        ByteArrayOutputStream printed = new ByteArrayOutputStream();
        try (URLClassLoader loader = new URLClassLoader(new URL[] {folder.toUri().toURL()})) {
            System.setOut(new PrintStream(printed, true));
            loader.loadClass("Example").getMethod("main", String[].class).invoke(null, (Object) new String[0]);
        } finally {
            System.setOut(console);
        }
        return printed.toString().replace(System.lineSeparator(), "\n");
    }

    private static void remove(Path folder) throws Exception {
        try (Stream<Path> files = Files.walk(folder)) {
            List<Path> deepestFirst = files.sorted(Comparator.reverseOrder()).toList();
            for (Path file : deepestFirst) {
                Files.delete(file);
            }
        }
    }
}
