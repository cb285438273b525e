import java.io.IOException;
import java.net.URL;
import java.net.URLClassLoader;
import java.nio.file.Files;
import java.nio.file.Path;
import java.util.ArrayList;
import java.util.List;
import java.util.stream.Stream;
import javax.tools.ToolProvider;

/** Java files that a test makes itself, compiled in a folder that is removed behind the test. */
final class Compiled {
    static final Path PROGRAM = Path.of("src", "main", "java", "ResetRooms.java");
    static final Path TESTS = Path.of("src", "test", "java");

    private final Path folder;
    private final List<String> files = new ArrayList<>();

    Compiled() throws IOException {
        folder = Files.createTempDirectory("rooms");
    }

    void file(String name, String text) throws IOException {
        Path path = folder.resolve(name);
        Files.writeString(path, text);
        files.add(path.toString());
    }

    void file(Path path) {
        files.add(path.toString());
    }

    void compile() {
        List<String> words = new ArrayList<>(List.of("-proc:none", "-encoding", "UTF-8", "-d", folder.toString(),
                "-cp", folder.toString()));
        words.addAll(files);
        int failed = ToolProvider.getSystemJavaCompiler().run(null, null, null, words.toArray(new String[0]));
        if (failed != 0) {
            throw new IllegalStateException("the files in " + folder + " do not compile");
        }
    }

    /** Runs the main method of a compiled class. */
    void run(String name) throws IOException, ReflectiveOperationException {
        // No parent but the library: the classes of the test itself must not stand in for those of the folder.
        try (URLClassLoader loader = new URLClassLoader(new URL[] {folder.toUri().toURL()},
                ClassLoader.getPlatformClassLoader())) {
            var main = loader.loadClass(name).getDeclaredMethod("main", String[].class);
            main.setAccessible(true);
            main.invoke(null, (Object) new String[0]);
        }
    }

    void remove() throws IOException {
        try (Stream<Path> paths = Files.list(folder)) {
            for (Path path : paths.toList()) {
                Files.delete(path);
            }
        }
        Files.delete(folder);
    }
}
