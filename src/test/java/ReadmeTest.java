import java.io.ByteArrayOutputStream;
import java.io.IOException;
import java.io.PrintStream;
import java.net.URL;
import java.net.URLClassLoader;
import java.nio.charset.StandardCharsets;
import java.nio.file.Files;
import java.nio.file.Path;
import javax.tools.ToolProvider;

/** README.md's example compiles, and prints what README.md says. Runs in the project's own directory. */
public final class ReadmeTest {
    private static final String MARK = "```";

    public static void main(String[] args) throws Exception {
        String readme = Files.readString(Path.of("README.md"));
        String due = blockOf(readme, "text");
        String got = printed(blockOf(readme, "java"));
        boolean same = due.equals(got);
        System.out.println(same ? "README.md's example is as told" : "README.md's example prints:\n" + got);
        System.exit(same ? 0 : 1);
    }

    /** The first block of a kind, without its marks. */
    private static String blockOf(String readme, String kind) {
        String mark = MARK + kind + "\n";
        int from = readme.indexOf(mark) + mark.length();
        return readme.substring(from, readme.indexOf(MARK, from));
    }

    private static String printed(String source) throws Exception {
        Path room = Files.createTempDirectory("readme");
        Path file = room.resolve("Example.java");
        try {
            Files.writeString(file, source);
            int failed = ToolProvider.getSystemJavaCompiler().run(null, null, null, "-cp",
                    System.getProperty("java.class.path"), "-d", room.toString(), file.toString());
            return failed == 0 ? run(room) : "nothing: it does not compile";
        } finally {
            clear(room);
        }
    }

    private static String run(Path room) throws Exception {
        PrintStream out = System.out;
        ByteArrayOutputStream bytes = new ByteArrayOutputStream();
        try (URLClassLoader loader = new URLClassLoader(new URL[] {room.toUri().toURL()});
                PrintStream kept = new PrintStream(bytes, true, StandardCharsets.UTF_8)) {
            System.setOut(kept);
            loader.loadClass("Example").getMethod("main", String[].class).invoke(null, (Object) new String[0]);
        } finally {
            System.setOut(out);
        }
        return bytes.toString(StandardCharsets.UTF_8).replace(System.lineSeparator(), "\n");
    }

    private static void clear(Path room) throws IOException {
        try (var files = Files.list(room)) {
            for (Path file : (Iterable<Path>) files::iterator) {
                Files.delete(file);
            }
        }
        Files.delete(room);
    }
}
