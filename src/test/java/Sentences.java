import java.io.IOException;
import java.nio.file.Files;
import java.nio.file.Path;
import java.util.ArrayList;
import java.util.List;
import java.util.Map;
import java.util.TreeMap;
import java.util.function.Supplier;
import java.util.function.ToIntFunction;

/**
 * What the tests of single sentences share. Each test names its promise (or the terms) and quotes the
 * sentence that it tests; at the end every quote has to stand in the document, and every word of the
 * terms and of the promises has to stand in a quote.
 */
final class Sentences {
    static final int TERMS = 0;
    private static final Path DOCUMENT = Path.of("..", "shared", "DOC.md");
    /** With these words the paragraphs of the terms begin. */
    private static final String HEADS = "Boxes|Locks|Props|Clues|Time|Games|Next step|Resets|Log|Texts of boxes|Snapshots"
            + "|Errors|The constants";

    private final Due due = new Due("SentencesTest");
    private final Map<Integer, List<String>> quotes = new TreeMap<>();
    private String label = "";
    private int answers;

    void test(int promise, String quote, Runnable calls) {
        quotes.computeIfAbsent(promise, p -> new ArrayList<>()).add(quote);
        label = name(promise) + ", \"" + quote + "\": ";
        int before = answers;
        calls.run();
        due.is(label + "at least one answer is looked at", answers > before ? 1 : 0, 1);
    }

    private static String name(int promise) {
        return promise == TERMS ? "the terms" : "promise " + promise;
    }

    void is(String call, long got, long want) {
        answers++;
        due.is(label + call, got, want);
    }

    void is(String call, String got, String want) {
        answers++;
        due.is(label + call, got, want);
    }

    /** The call gives this error or NONE and changes nothing: the room is as its twin without the call. */
    void refused(String call, Supplier<ResetRooms> room, ToIntFunction<ResetRooms> made, int want) {
        ResetRooms x = room.get();
        is(call, made.applyAsInt(x), want);
        is("the room after " + call, Told.all(x), Told.all(room.get()));
    }

    /** A test with one refused call alone. */
    void refused(int promise, String quote, String call, Supplier<ResetRooms> room, ToIntFunction<ResetRooms> made, int want) {
        test(promise, quote, () -> refused(call, room, made, want));
    }

    void end() {
        label = "";
        compareWithDocument();
        due.end();
    }

    private void compareWithDocument() {
        String document;
        try {
            document = Files.readString(DOCUMENT);
        } catch (IOException e) {
            System.out.println("SentencesTest: there is no " + DOCUMENT + ", the quotes are not looked for in it");
            return;
        }
        for (String part : document.split("(?m)^## ")) {
            int promise = numberOf(part);
            if (promise >= 0) {
                compare(promise, sentencesOf(part));
            }
        }
    }

    /** The number of a part's promise, TERMS for the terms, and -1 for the other parts. */
    private static int numberOf(String part) {
        if (part.startsWith("Terms")) {
            return TERMS;
        }
        return part.startsWith("Promise ") ? Integer.parseInt(part.substring(8, part.indexOf(':'))) : -1;
    }

    /** The text of a part without its heading, the faces of its calls and what tells of the interface's form. */
    private static String sentencesOf(String part) {
        return part.substring(part.indexOf('\n'))
                .replaceAll("(?m)^Ahead of the calls .*$", "")
                .replaceAll("(?m)^(" + HEADS + ")[.:]", "")
                .replaceAll("```(text)?", "")
                .replaceAll("`[^`]*`:", "")
                .replaceAll("\\s+", " ");
    }

    private void compare(int promise, String text) {
        boolean[] quoted = new boolean[text.length()];
        for (String quote : quotes.getOrDefault(promise, List.of())) {
            int at = text.indexOf(quote);
            due.is(name(promise) + " has the words \"" + quote + "\"", at >= 0 ? 1 : 0, 1);
            while (at >= 0) {
                for (int i = 0; i < quote.length(); i++) {
                    quoted[at + i] = true;
                }
                at = text.indexOf(quote, at + 1);
            }
        }
        for (int i = 0; i < text.length(); i++) {
            if (Character.isLetterOrDigit(text.charAt(i)) && !quoted[i]) {
                int end = i;
                while (end < text.length() && !quoted[end]) {
                    end++;
                }
                due.is(name(promise) + " has a test that quotes", "", text.substring(i, end));
                i = end;
            }
        }
    }
}
