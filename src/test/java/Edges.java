import java.io.IOException;
import java.nio.file.Files;
import java.nio.file.Path;
import java.util.HashMap;
import java.util.Map;
import java.util.Set;
import java.util.TreeSet;

/**
 * Boundary cases, each under the sentence of the document that names it: says(..) tells the part
 * of the document and the sentence, the answers that are due stand behind it.
 */
final class Edges {
    private static final Path DOCUMENT = Path.of("../shared/DOC.md");

    private final Checks checks;
    private final Map<String, String> parts = new HashMap<>();
    private final Set<String> named = new TreeSet<>();
    private String part = "no part";
    private String sentence = "no sentence";
    private int sentences;
    private int dues = 1;

    Edges(String of) {
        checks = new Checks(of);
        readDocument();
    }

    private void readDocument() {
        if (!Files.exists(DOCUMENT)) {
            return;
        }
        try {
            String name = "no part";
            for (String line : Files.readAllLines(DOCUMENT)) {
                if (line.startsWith("## ")) {
                    name = line.substring(3).split(":")[0];
                } else if (line.startsWith("==== ")) {
                    name = "Terms " + line.charAt(5);
                } else if (line.startsWith("The constants:")) {
                    name = "The constants";
                }
                parts.merge(name, line, (text, more) -> (text + " " + more).replaceAll("\\s+", " "));
            }
        } catch (IOException e) {
            throw new IllegalStateException(e);
        }
    }

    /** Begins the test of a sentence. */
    void says(String newPart, String newSentence) {
        endSentence();
        part = newPart;
        sentence = newSentence;
        dues = 0;
        sentences++;
        named.add(newPart);
        // the document may be told anew while the test still holds: so this is said, and is no fault of the class
        if (!parts.isEmpty() && !parts.getOrDefault(part, "").contains(sentence)) {
            System.out.println("Look again: " + part + " of the document does not say \"" + sentence + "\"");
        }
    }

    private void endSentence() {
        if (dues == 0) {
            checks.due(part + ", \"" + sentence + "\": answers that are due", 0, 1);
        }
    }

    void due(String call, long got, long want) {
        dues++;
        checks.due(part + ", \"" + sentence + "\": " + call, got, want);
    }

    void due(String call, boolean got, boolean want) {
        due(call, got ? 1 : 0, want ? 1 : 0);
    }

    /** A book is read without a fault by a new object, which is answered. */
    ForeignKnit book(String text) {
        ForeignKnit x = new ForeignKnit();
        due("book of " + text, Checks.book(x, text), 0);
        return x;
    }

    /** A book has a fault: the wrong token stands behind the ^, which is not on the tape. */
    void bookFault(String marked, int kind) {
        String text = marked.replace("^", "");
        due("book of " + text, Checks.book(new ForeignKnit(), text), kind + 16 * marked.indexOf('^'));
    }

    void notes(ForeignKnit x, String text) {
        due("notes of " + text, Checks.notes(x, text), 0);
    }

    /** Notes of this book have a fault, told likewise. */
    void notesFault(String book, String marked, int kind) {
        String text = marked.replace("^", "");
        due("notes of " + text, Checks.notes(Checks.of(book), text), kind + 16 * marked.indexOf('^'));
    }

    /** All that is answered of the book and of what is done by hand, but for what can be undone. */
    static String answers(ForeignKnit x) {
        StringBuilder all = new StringBuilder();
        int[] alone = {x.fits(), x.fixed(), x.open(), x.ask(), x.learn(), x.bad(), x.off(), x.twins(), x.idle(), x.drops(),
            x.misprints(), x.misprint(0), x.misprint(1), x.misprint(2), x.spare(), x.judged(0), x.judged(1), x.judged(2),
            x.count(0), x.count(1), x.count(2), x.count(3), x.count(4), x.count(5), x.count(6), x.count(8),
            x.drafts(7, 30, 0), x.drafts(7, 30, 1), x.drafts(7, 30, 2)};
        for (int answer : alone) {
            all.append(answer).append(' ');
        }
        for (int word = 0; word < 4; word++) {
            all.append("word ").append(x.could(word)).append(' ').append(x.sure(word)).append(' ');
            for (int i = 0; i < 9; i++) {
                all.append(x.entry(i * i, word)).append(' ').append(x.with(word, i / 3, i % 3)).append(' ');
                all.append(x.term(word, i)).append(' ');
            }
        }
        for (int row = 0; row < 8; row++) {
            all.append("row ").append(x.least(row)).append(' ').append(x.most(row)).append(' ').append(x.kinds(row)).append(' ');
            all.append(x.behind(row)).append(' ').append(x.strict(row)).append(' ').append(x.turned(row)).append(' ');
            for (int i = 0; i < 8; i++) {
                all.append(x.has(row, i)).append(' ').append(x.chance(row, i)).append(' ').append(x.line(row, i)).append(' ');
                all.append(x.there(row, i * 7)).append(' ').append(x.alike(row, i)).append(' ');
            }
        }
        return all.toString();
    }

    /** All is answered as it is by another object. */
    void same(String call, ForeignKnit x, ForeignKnit other) {
        due("all answers " + call, answers(x).equals(answers(other)), true);
    }

    /** Each promise of these numbers must have been named. */
    void promises(int from, int to) {
        for (int promise = from; promise <= to; promise++) {
            checks.due("Promise " + promise + " is named", named.contains("Promise " + promise), true);
        }
    }

    void end() {
        endSentence();
        System.out.println(sentences + " sentences:");
        checks.end();
    }
}
