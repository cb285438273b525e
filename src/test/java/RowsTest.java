import java.io.IOException;
import java.nio.file.Files;
import java.nio.file.Path;
import java.util.stream.Stream;

/**
 * No call needs the guards of the rows: RandomTest and SentencesTest run with a copy of the program in which
 * at and put reach into a row without a look at the index, and the machine would throw if an index were outside.
 * (Once open, promise 15, looked for the place of a prop whose number was the code of the box.)
 */
final class RowsTest {
    private static final String LOOK = "row != null && index >= 0 && index < row.length";

    public static void main(String[] args) throws IOException, ReflectiveOperationException {
        Due due = new Due("RowsTest");
        String program = Files.readString(Compiled.PROGRAM);
        due.is("the guards of at and put", program.split(LOOK, -1).length - 1, 2);
        Compiled copy = new Compiled();
        try {
            copy.file("ResetRooms.java", program.replace(LOOK, "true"));
            try (Stream<Path> tests = Files.list(Compiled.TESTS)) {
                tests.forEach(copy::file);
            }
            copy.compile();
            copy.run("RandomTest");
            copy.run("SentencesTest");
        } finally {
            copy.remove();
        }
        due.end();
    }
}
