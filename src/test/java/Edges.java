import java.io.IOException;
import java.nio.file.Files;
import java.nio.file.Path;
import java.util.HashMap;
import java.util.Map;
import java.util.Set;
import java.util.TreeSet;
import java.util.regex.Matcher;
import java.util.regex.Pattern;

/**
 * Boundary cases, each under the sentence of the document that names it: says(..) tells the part
 * of the document and the sentence, the answers that are due stand behind it.
 */
final class Edges {
    private static final Path DOCUMENT = Path.of("../shared/DOC.md");

    private final Checks checks;
    private final Map<String, String> parts = new HashMap<>();
    private final Set<String> named = new TreeSet<>();
    private String part = "no part";
    private String sentence = "no sentence";
    private int sentences;
    private int dues = 1;

    Edges(String of) {
        checks = new Checks(of);
        readDocument();
    }

    private void readDocument() {
        if (!Files.exists(DOCUMENT)) {
            return;
        }
        try {
            Matcher found = Pattern.compile("(?ms)^(?:## ([^\n:]+)|==== (\\d)\\.)(.*?)(?=^## |^==== |\\z)")
                .matcher(Files.readString(DOCUMENT));
            while (found.find()) {
                String name = found.group(2) == null ? found.group(1) : "Terms " + found.group(2);
                parts.put(name, found.group(3).replaceAll("\\s+", " "));
            }
        } catch (IOException e) {
            throw new IllegalStateException(e);
        }
    }

    /** Begins the test of a sentence. */
    void says(String newPart, String newSentence) {
        endSentence();
        part = newPart;
        sentence = newSentence;
        dues = 0;
        sentences++;
        named.add(newPart);
        // the document may be told anew while the test still holds: so this is said, and is no fault of the class
        String text = parts.get(part);
        if (text != null && !text.contains(sentence)) {
            System.out.println("Look again: " + part + " of the document does not say \"" + sentence + "\"");
        }
    }

    private void endSentence() {
        if (dues == 0) {
            checks.due(part + ", \"" + sentence + "\": answers that are due", 0, 1);
        }
    }

    void due(String call, long got, long want) {
        dues++;
        checks.due(part + ", \"" + sentence + "\": " + call, got, want);
    }

    void due(String call, boolean got, boolean want) {
        due(call, got ? 1 : 0, want ? 1 : 0);
    }

    /** A book is read without a fault by a new object, which is answered. */
    ForeignKnit book(String text) {
        ForeignKnit x = new ForeignKnit();
        due("book of " + text, Checks.book(x, text), 0);
        return x;
    }

    /** A book has a fault: the wrong token stands behind the ^, which is not on the tape. */
    void bookFault(String marked, int kind) {
        String text = marked.replace("^", "");
        due("book of " + text, Checks.book(new ForeignKnit(), text), kind + 16 * marked.indexOf('^'));
    }

    void notes(ForeignKnit x, String text) {
        due("notes of " + text, Checks.notes(x, text), 0);
    }

    /** Notes of this book have a fault, told likewise. */
    void notesFault(String book, String marked, int kind) {
        String text = marked.replace("^", "");
        due("notes of " + text, Checks.notes(Checks.of(book), text), kind + 16 * marked.indexOf('^'));
    }

    /** Each promise of these numbers must have been named. */
    void promises(int from, int to) {
        for (int promise = from; promise <= to; promise++) {
            checks.due("Promise " + promise + " is named", named.contains("Promise " + promise), true);
        }
    }

    void end() {
        endSentence();
        System.out.println(sentences + " sentences:");
        checks.end();
    }
}
