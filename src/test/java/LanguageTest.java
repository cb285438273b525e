import java.io.IOException;
import java.nio.file.Files;
import java.nio.file.Path;
import java.util.List;
import java.util.Set;
import java.util.regex.Matcher;
import java.util.regex.Pattern;

/** The rules of LANGUAGE.md that can be seen in the words of the program. */
final class LanguageTest {
    private static final Path PROGRAM = Path.of("src", "main", "java", "ResetRooms.java");
    private static final Set<String> FORBIDDEN = Set.of("package", "import", "throw", "throws", "try", "catch", "finally",
            "synchronized", "assert", "volatile", "transient", "native", "strictfp", "Object", "Thread", "Runtime", "Random",
            "equals", "hashCode", "toString", "printStackTrace", "Exception", "Error");
    private static final Due due = new Due("LanguageTest");

    public static void main(String[] args) throws IOException {
        String text = Files.readString(PROGRAM);
        String code = text.replaceAll("(?s)/\\*.*?\\*/", "").replaceAll("//.*", "").replaceAll("\"[^\"\\n]*\"", "\"\"")
                .replaceAll("'[^'\\n]+'", "' '");
        words(code);
        signs(text, code);
        rows(code);
        lines(text);
        due.end();
    }

    private static void words(String code) {
        Matcher word = Pattern.compile("[A-Za-z_]\\w*").matcher(code);
        while (word.find()) {
            due.is("the word " + word.group() + " is allowed", FORBIDDEN.contains(word.group()) ? 0 : 1, 1);
        }
        Matcher field = Pattern.compile("(?m)^.*\\bstatic\\b(?!.*\\b(final|class|enum|record)\\b)[^(]*[;=].*$").matcher(code);
        due.is("a static field that is not final", field.find() ? field.group() : "", "");
    }

    private static void signs(String text, String code) {
        due.is("signs of 1 to 127 alone", text.chars().allMatch(sign -> sign > 0 && sign < 128) ? 1 : 0, 1);
        for (String sign : List.of("->", "::", "@", "...", "+ \"", "\" +", "[][]")) {
            due.is("the sign " + sign + " in the code", code.indexOf(sign), -1);
        }
    }

    /** Only the functions that look at the index first reach into a row; all rows are as long as constants tell. */
    private static void rows(String code) {
        int rowCode = code.indexOf("private static int at(");
        int rowEnd = code.indexOf("private static final class", rowCode);
        Matcher index = Pattern.compile("\\w\\[(?!\\])([^\\]]*)\\]").matcher(code);
        while (index.find()) {
            boolean looked = index.start() > rowCode && index.start() < rowEnd;
            boolean length = index.group(1).matches("[A-Z_]+( \\* [A-Z_]+)?");
            due.is("an index is looked at: " + index.group(), looked || length ? 1 : 0, 1);
        }
        Matcher divisor = Pattern.compile("[/%]=? (\\w+)").matcher(code);
        while (divisor.find()) {
            boolean constant = divisor.group(1).matches("[A-Z_]+|[1-9][0-9]*|unit");
            due.is("a divisor that cannot be 0: " + divisor.group(), constant ? 1 : 0, 1);
        }
    }

    private static void lines(String text) {
        for (String line : text.split("\n")) {
            due.is("the length of " + line, Math.max(0, line.length() - 120), 0);
        }
    }
}
