import java.io.ByteArrayOutputStream;
import java.io.IOException;
import java.io.PrintStream;
import java.lang.reflect.Method;
import java.lang.reflect.Modifier;
import java.nio.file.Files;
import java.nio.file.Path;
import java.util.stream.Stream;

/** README.md: its program prints what is told there, and its tables name all calls, constants and tests. */
final class ReadmeTest {
    private static final Due due = new Due("ReadmeTest");

    public static void main(String[] args) throws IOException, ReflectiveOperationException {
        String readme = Files.readString(Path.of("README.md"));
        due.is("what the program prints", printed(block(readme, "java")), block(readme, "text"));
        for (Method method : ResetRooms.class.getDeclaredMethods()) {
            if (Modifier.isPublic(method.getModifiers())) {
                named(readme, "`" + method.getName() + "`");
            }
        }
        for (String constant : new String[] {"UNKNOWN` -1", "BAD_VALUE` -2", "FULL` -3", "NOT_POSSIBLE` -4", "NONE` -5",
            "TIME_OVER` -6"}) {
            named(readme, "| `" + constant + " |");
        }
        try (Stream<Path> files = Files.list(Compiled.TESTS)) {
            files.map(file -> file.getFileName().toString().replace(".java", ""))
                    .filter(name -> name.matches("\\w+(Test|Sentences)"))
                    .forEach(name -> named(readme, "| " + name + " |"));
        }
        due.end();
    }

    private static void named(String readme, String words) {
        due.is("README.md has " + words, readme.contains(words) ? 1 : 0, 1);
    }

    /** The first block of a kind. */
    private static String block(String readme, String kind) {
        String mark = "```" + kind + "\n";
        int from = readme.indexOf(mark) + mark.length();
        return readme.substring(from, readme.indexOf("```", from));
    }

    private static String printed(String program) throws IOException, ReflectiveOperationException {
        PrintStream out = System.out;
        ByteArrayOutputStream bytes = new ByteArrayOutputStream();
        Compiled play = new Compiled();
        try {
            System.setOut(new PrintStream(bytes, true));
            play.file("Play.java", program);
            play.file(Compiled.PROGRAM);
            play.compile();
            play.run("Play");
        } finally {
            System.setOut(out);
            play.remove();
        }
        return bytes.toString().replace(System.lineSeparator(), "\n");
    }
}
