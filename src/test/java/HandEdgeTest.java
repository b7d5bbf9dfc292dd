/** The boundary cases that part 2 of the document's Terms names: meanings, dictionaries, what is done by hand, judged. */
public final class HandEdgeTest {
    private static final String TERMS = "Terms 2";
    // pp must be (1, 1), qq (2, 1): without its count qq may be (2, 0) too
    private static final String SCARF = "word pp any;word qq less;casts 4;row pp 4;row pp qq pp;after 1 is 3;";
    // aa is (1, 1)
    private static final String ONE = "word aa even;rules takes = 1;";
    private static final String FREE = "word a any;word b any;word c any;word d any;";

    private static final Edges doc = new Edges("HandEdgeTest");

    private HandEdgeTest() {
    }

    public static void main(String[] args) {
        meanings();
        kinds();
        rulesOfMeanings();
        dictionaries();
        goneThrough();
        goesUp();
        thereBehind();
        fits();
        guess();
        forget();
        tell();
        drop();
        undoEach();
        undoSixteen();
        judgedFromTheBegin();
        judgedImpossible();
        judgedLeftOut();
        judgedStuck();
        judgedAtLast();
        doc.end();
    }

    private static void says(String sentence) {
        doc.says(TERMS, sentence);
    }

    // meanings, dictionaries

    private static void meanings() {
        says("A MEANING of a word is how many loops it TAKES (0 to 2) and how many it LEAVES (0 to 2)");
        ForeignKnit x = Checks.of("word aa any;");
        doc.due("how many", x.term(0, 2), 9);
        for (int meaning = 0; meaning < 9; meaning++) {
            x.guess(0, meaning / 3, meaning % 3);
            doc.due("guessed", x.term(0, 1), meaning);
        }
        doc.due("takes 3", x.guess(0, 3, 0), -2);
        doc.due("leaves 3", x.guess(0, 0, 3), -2);
        doc.due("takes -1", x.guess(0, -1, 0), -2);
        doc.due("leaves -1", x.guess(0, 0, -1), -2);
        doc.due("takes 1, leaves -1", x.guess(0, 1, -1), -2);
        doc.due("takes 0, leaves 5", x.guess(0, 0, 5), -2);
    }

    private static void kinds() {
        says("an even one LEAVES as many as it TAKES, one that grows more, a less one fewer");
        ForeignKnit x = Checks.of("word a even;word b grows;word c less;word d any;");
        doc.due("even: (0, 0), (1, 1), (2, 2)", Checks.meanings(x, 0), 1 << 0 | 1 << 4 | 1 << 8);
        doc.due("grows: (0, 1), (0, 2), (1, 2)", Checks.meanings(x, 1), 1 << 1 | 1 << 2 | 1 << 5);
        doc.due("less: (1, 0), (2, 0), (2, 1)", Checks.meanings(x, 2), 1 << 3 | 1 << 6 | 1 << 7);
        doc.due("any: each", Checks.meanings(x, 3), 511);
    }

    private static void rulesOfMeanings() {
        says("by which the E of rules is not 0");
        doc.due("less than 0", Checks.meanings(Checks.of("word aa any;rules takes - 1;"), 0), 455);
        doc.due("0", Checks.meanings(Checks.of("word aa any;rules 0;"), 0), 0);
        doc.due("by the kind as well", Checks.meanings(Checks.of("word aa even;rules takes;"), 0), 1 << 4 | 1 << 8);
        doc.due("a kind that has none by it", Checks.meanings(Checks.of("word aa grows;rules takes = 2;"), 0), 0);
    }

    private static void dictionaries() {
        says("A DICTIONARY gives each word a MEANING of it (there is none if a word has none).");
        doc.due("of no words", new ForeignKnit().count(5), 1);
        doc.due("of one word", Checks.of("word a any;").count(5), 9);
        doc.due("of four words", Checks.of(FREE).count(5), 6561);
        doc.due("of a word with 3 and one with 9", Checks.of("word a less;word b any;").count(5), 27);
        for (int none = 0; none < 4; none++) {
            ForeignKnit x = Checks.of(FREE + "rules which - " + none + ";");
            doc.due("word " + none + " has none", x.term(none, 2), 0);
            doc.due("no dictionary", x.count(5), 0);
            doc.due("none fits", x.fits(), 0);
        }
    }

    // the rows

    private static void goneThrough() {
        says("By it the ROWS are gone through, from the first one on: at first there are as many stitches as casts tells");
        doc.due("casts 1", Checks.of(ONE + "casts 1;row aa;").fits(), 1);
        doc.due("casts 60", Checks.of(ONE + "casts 60;row (aa 20)3;").fits(), 1);
        doc.due("nothing cast, one taken", Checks.of(ONE + "row aa;").fits(), 0);
        ForeignKnit none = Checks.of("word aa any;row aa;row aa;");
        doc.due("nothing cast, nothing taken", none.could(0), 1);
        String two = "word aa even;word bb grows;rules takes = 1;";
        doc.due("first the first", Checks.of(two + "casts 2;row bb 2;row aa 4;").fits(), 1);
        doc.due("not first the last", Checks.of(two + "casts 2;row aa 4;row bb 2;").fits(), 0);
        doc.due("casts told behind the rows", Checks.of(ONE + "row aa 3;casts 3;").fits(), 1);
    }

    private static void goesUp() {
        says("a ROW GOES UP if its words TAKE, together, just as many as there are");
        for (int there = 1; there <= 5; there++) {
            doc.due("three of " + there, Checks.of(ONE + "casts " + there + ";row aa 3;").fits(), there == 3 ? 1 : 0);
        }
        for (int more = 1; more <= 5; more++) {
            String row = "row aa " + more + ";";
            doc.due("the second row: " + more + " of three", Checks.of(ONE + "casts 3;row aa 3;" + row).fits(),
                more == 3 ? 1 : 0);
        }
        doc.due("nothing of nothing", Checks.of("word aa any;rules takes = 0 and leaves = 0;row aa 20;").fits(), 1);
    }

    private static void thereBehind() {
        says("what they LEAVE, together, is there behind it (GOES UP or not)");
        ForeignKnit x = Checks.of(ONE + "casts 5;row aa 3;row aa 3;row aa 2;");
        x.guess(0, 1, 1);
        doc.due("behind a row that does not go up", x.behind(0), 3);
        doc.due("behind the next one", x.behind(1), 3);
        doc.due("the next one goes up all the same", x.drafts(0, 1, 1), 1);
        ForeignKnit last = Checks.of(ONE + "casts 5;row aa 3;row aa 3;");
        doc.due("so that one fits but for the first row", last.strict(0), 1);
        doc.due("none fits but for the other one", last.strict(1), 0);
    }

    private static void fits() {
        says("It FITS if each ROW GOES UP, behind each ROW with a count there are as many, and each GUESSED word has the "
            + "MEANING GUESSED.");
        doc.due("no rows, no counts, no guesses", Checks.of(FREE).fits(), 6561);
        doc.due("eight rows", Checks.of(ONE + "casts 1;" + "row aa;".repeat(8)).fits(), 1);
        for (int row = 0; row < 8; row++) {
            String rows = "row aa;".repeat(row) + "row aa 2;" + "row aa;".repeat(7 - row);
            doc.due("row " + row + " does not go up", Checks.of(ONE + "casts 1;" + rows).fits(), 0);
            ForeignKnit x = Checks.of(ONE + "casts 1;" + "row aa;".repeat(8));
            x.tell(row, 1);
            doc.due("behind row " + row + " there are as many", x.fits(), 1);
            x.tell(row, 2);
            doc.due("behind row " + row + " there are fewer", x.fits(), 0);
            x.tell(row, 0);
            doc.due("behind row " + row + " there are more", x.fits(), 0);
        }
        for (int word = 0; word < 4; word++) {
            ForeignKnit x = Checks.of(FREE);
            x.guess(word, 0, 0);
            doc.due("word " + word + " guessed as (0, 0)", x.fits(), 729);
            doc.due("it could be that alone", x.could(word), 1);
            x.guess(word, 2, 2);
            doc.due("it could be (2, 2) alone", x.could(word), 256);
        }
        ForeignKnit counted = Checks.of(SCARF);
        doc.due("by the count of the book", counted.fits(), 1);
        counted.guess(1, 2, 0);
        doc.due("a guess against a count", counted.fits(), 0);
    }

    // by hand

    private static void guess() {
        says("GUESS: a word has that MEANING, if it is one of it (in place of what was GUESSED ahead).");
        ForeignKnit x = Checks.of(SCARF);
        doc.due("none of it", x.guess(1, 1, 1), -2);
        doc.due("it is not guessed then", x.term(1, 1), -1);
        doc.due("one of it", x.guess(1, 2, 0), -1);
        doc.due("none fits", x.fits(), 0);
        doc.due("in place of what was ahead", x.guess(1, 2, 1), 6);
        doc.due("that one fits", x.fits(), 1);
        doc.due("none of it", x.guess(1, 0, 0), -2);
        doc.due("what was ahead stays", x.term(1, 1), 7);
        doc.due("the other word is not guessed", x.term(0, 1), -1);
    }

    private static void forget() {
        says("FORGET: a GUESSED word is not.");
        ForeignKnit x = Checks.of(SCARF);
        x.guess(0, 0, 0);
        x.guess(1, 2, 1);
        doc.due("the one", x.forget(0), 0);
        doc.due("it is not guessed", x.term(0, 1), -1);
        doc.due("the other one is", x.count(3), 2);
        doc.due("one fits again", x.fits(), 1);
        doc.due("it is not guessed any more", x.forget(0), -1);
    }

    private static void tell() {
        says("TELL: a ROW has that count (in place of another one).");
        ForeignKnit x = Checks.of(SCARF);
        doc.due("in place of the one told in the book", x.tell(1, 2), 3);
        doc.due("another one fits", x.sure(1), 6);
        doc.due("a row that has none", x.tell(0, 0), -1);
        doc.due("none fits", x.fits(), 0);
        doc.due("in place of 0", x.tell(0, 4), 0);
        doc.due("the other row's stays", x.line(1, 1), 2);
        doc.due("one fits", x.fits(), 1);
    }

    private static void drop() {
        says("DROP: a ROW that has a count has none.");
        ForeignKnit x = Checks.of(SCARF);
        x.tell(0, 0);
        doc.due("a count of 0", x.drop(0), 0);
        doc.due("there is none", x.line(0, 1), -1);
        doc.due("the other row's stays", x.line(1, 1), 3);
        doc.due("the one told in the book", x.drop(1), 3);
        doc.due("there is none", x.count(4), 0);
        doc.due("two fit", x.fits(), 2);
        doc.due("it has none any more", x.drop(1), -1);
    }

    private static void undoEach() {
        says("UNDO: all of these");
        ForeignKnit x = Checks.of(SCARF);
        x.guess(0, 1, 1);
        x.undo();
        doc.due("a first guess", x.term(0, 1), -1);
        x.guess(0, 1, 1);
        x.guess(0, 2, 2);
        x.undo();
        doc.due("a guess in place of another one", x.term(0, 1), 4);
        x.forget(0);
        x.undo();
        doc.due("a word forgotten", x.term(0, 1), 4);
        x.tell(0, 9);
        x.undo();
        doc.due("a first count", x.line(0, 1), -1);
        x.tell(1, 9);
        doc.due("none fits", x.fits(), 0);
        x.undo();
        doc.due("a count in place of another one", x.line(1, 1), 3);
        doc.due("one fits", x.fits(), 1);
        x.drop(1);
        x.undo();
        doc.due("a count dropped", x.line(1, 1), 3);
        doc.due("the first guess is left", x.undo(), true);
        doc.due("it is undone", x.term(0, 1), -1);
        doc.due("what was refused is none of these", x.undo(), false);
        x.guess(1, 1, 1);
        x.forget(1);
        x.tell(0, 100);
        x.drop(0);
        doc.due("what was refused later, too", x.undo(), false);
        ForeignKnit y = Checks.of(SCARF);
        String[] ahead = new String[5];
        for (int i = 0; i < 5; i++) {
            ahead[i] = Edges.answers(y);
            doc.due("thing " + i + " done by hand", doOne(y, i), new int[] {3, -1, -1, 6, 4}[i]);
        }
        for (int i = 4; i >= 0; i--) {
            y.undo();
            doc.due("all answers as they were ahead of " + i, Edges.answers(y).equals(ahead[i]), true);
        }
    }

    private static int doOne(ForeignKnit x, int i) {
        switch (i) {
            case 0:
                return x.drop(1);
            case 1:
                return x.guess(1, 2, 0);
            case 2:
                return x.tell(0, 4);
            case 3:
                return x.forget(1);
            default:
                return x.tell(0, 5);
        }
    }

    private static void undoSixteen() {
        says("the last 16, one by one");
        for (int many = 15; many <= 18; many++) {
            ForeignKnit x = Checks.of(SCARF);
            for (int i = 0; i < many; i++) {
                x.tell(0, i);
            }
            int kept = Math.min(many, 16);
            doc.due("of " + many + " there can be undone", x.count(7), kept);
            for (int i = 1; i <= kept; i++) {
                doc.due("of " + many + " one", x.undo(), true);
                doc.due("the count ahead of it", x.line(0, 1), many - i - 1);
                doc.due("there are fewer", x.count(7), kept - i);
            }
            doc.due("no more of " + many, x.undo(), false);
            doc.due("what is lost stays", x.line(0, 1), many - kept - 1);
        }
        ForeignKnit y = Checks.of(SCARF);
        for (int i = 0; i < 40; i++) {
            y.tell(1, i);
            y.tell(0, i);
            y.undo();
        }
        doc.due("what was undone is not kept", y.line(0, 1), -1);
        doc.due("the 17th is lost behind one that was undone, too", y.count(7), 15);
        for (int i = 0; i < 16; i++) {
            y.undo();
        }
        doc.due("fifteen ahead", y.line(1, 1), 24);
        ForeignKnit turns = Checks.of(SCARF);
        for (int i = 0; i < 9; i++) {
            turns.guess(0, i / 3, i % 3);
            turns.tell(0, 10 * i);
            turns.tell(1, 90 - i);
        }
        // eleven of 27 are lost: three of each, and two more
        for (int i = 8; i > 3; i--) {
            turns.undo();
            doc.due("the second row's", turns.line(1, 1), 91 - i);
            turns.undo();
            doc.due("the first row's", turns.line(0, 1), 10 * (i - 1));
            turns.undo();
            doc.due("the word's", turns.term(0, 1), i - 1);
        }
        doc.due("the sixteenth", turns.undo(), true);
        doc.due("is the second row's", turns.line(1, 1), 88);
        doc.due("no more", turns.undo(), false);
        doc.due("what is lost stays", turns.line(0, 1) * 10 + turns.term(0, 1), 303);
    }

    // notes, judged

    private static void judged(ForeignKnit x, String text, int impossible, int stuck, int left) {
        doc.notes(x, text);
        doc.due("judged(0) of " + text, x.judged(0), impossible);
        doc.due("judged(1) of " + text, x.judged(1), stuck);
        doc.due("judged(2) of " + text, x.judged(2), left);
    }

    private static void judgedFromTheBegin() {
        says("JUDGED: the NOTES from the begin");
        ForeignKnit x = Checks.of(SCARF);
        x.guess(0, 2, 2);
        x.drop(1);
        doc.due("nothing guessed, counts as told", x.judged(2), 1);
        judged(x, "forget pp;", 0, -1, 1);
        judged(x, "drop 1;", -1, -1, 2);
        judged(x, "guess qq 2 0;", -1, 0, 0);
        doc.due("by hand all is as it was", x.term(0, 1) * 10 + x.line(1, 1), 79);
        doc.due("and can be undone", x.count(7), 2);
    }

    private static void judgedImpossible() {
        says("the first line (from 0) that can't be (guess of no MEANING of the word; forget of one not GUESSED; drop of a "
            + "ROW without a count");
        ForeignKnit x = Checks.of(SCARF);
        judged(x, "", -1, -1, 1);
        judged(x, "guess qq 1 1;", 0, -1, 1);
        judged(x, "guess qq 2 1;", -1, -1, 1);
        judged(x, "forget pp;", 0, -1, 1);
        judged(x, "guess pp 1 1;forget pp;", -1, -1, 1);
        judged(x, "guess pp 1 1;forget qq;", 1, -1, 1);
        judged(x, "guess pp 1 1;forget pp;forget pp;", 2, -1, 1);
        judged(x, "drop 0;", 0, -1, 1);
        judged(x, "drop 1;drop 1;", 1, -1, 2);
        judged(x, "tell 0 4;drop 0;drop 0;", 2, -1, 1);
        judged(x, "tell 1 3;drop 0;forget pp;guess qq 0 0;", 1, -1, 1);
        judged(x, "tell 1 3;".repeat(39) + "drop 0;", 39, -1, 1);
    }

    private static void judgedLeftOut() {
        says("those are left out");
        ForeignKnit x = Checks.of(SCARF);
        judged(x, "guess qq 2 1;guess qq 1 1;", 1, -1, 1);
        judged(x, "guess qq 1 1;forget qq;", 0, -1, 1);
        judged(x, "drop 1;guess qq 2 0;guess qq 1 1;tell 1 2;", 2, -1, 1);
        judged(x, "drop 0;tell 1 2;drop 0;", 0, -1, 1);
    }

    private static void judgedStuck() {
        says("the first line behind which no DICTIONARY FITS");
        ForeignKnit x = Checks.of(SCARF);
        judged(x, "tell 1 9;", -1, 0, 0);
        judged(x, "tell 1 3;tell 1 9;tell 1 8;", -1, 1, 0);
        judged(x, "tell 0 4;guess pp 0 0;forget pp;", -1, 1, 1);
        judged(x, "tell 1 3;".repeat(39) + "tell 1 9;", -1, 39, 0);
        judged(x, "tell 1 3;".repeat(40), -1, -1, 1);
        judged(x, "tell 1 2;guess qq 2 1;tell 1 3;", -1, 1, 1);
    }

    private static void judgedAtLast() {
        says("how many FIT at last");
        ForeignKnit x = Checks.of(FREE);
        doc.due("no notes", x.judged(2), 6561);
        judged(x, "guess a 0 0;", -1, -1, 729);
        judged(x, "guess a 0 0;guess b 0 0;guess c 0 0;guess d 0 0;", -1, -1, 1);
        judged(x, "guess a 0 0;guess b 0 0;forget b;forget a;", -1, -1, 6561);
        doc.due("without a book", new ForeignKnit().judged(2), 1);
        doc.due("of a book that none fits", Checks.of("word a any;rules 0;").judged(2), 0);
    }
}
