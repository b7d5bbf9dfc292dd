import java.util.NoSuchElementException;

/** The boundary cases that the promises name: each answer for what is none, too small, too large, refused. */
public final class PromiseEdgeTest {
    // pp must be (1, 1), qq (2, 1): without its count qq may be (2, 0) too
    private static final String SCARF = "word pp any;word qq less;casts 4;row pp 4;row pp qq pp;after 1 is 3;";
    private static final String FREE = "word a any;word b any;word c any;word d any;";
    // four words, eight rows; by the first two only words that take and leave nothing fit
    private static final String FULL = FREE + "row a b c d;row a b c d;row a;row b;row c;row d;row a b;row c d;";
    // takes: 0 2, 1 1, 2 0; nine fit, with 0, 1, 2 / 1, 2, 3 / 2, 3, 4 stitches behind the row
    private static final String HAT = "word aa even;word bb any;casts 2;row aa bb;";
    private static final int LEAST = Integer.MIN_VALUE;
    private static final int GREATEST = Integer.MAX_VALUE;
    private static final int THROWN = -77;

    private static final Edges doc = new Edges("PromiseEdgeTest");

    private PromiseEdgeTest() {
    }

    public static void main(String[] args) {
        calls();
        constants();
        newObject();
        feed();
        feedInOrder();
        book();
        notes();
        term();
        line();
        there();
        guess();
        forget();
        tell();
        drop();
        undo();
        judged();
        fits();
        entry();
        could();
        sure();
        fixed();
        with();
        leastAndMost();
        kinds();
        open();
        has();
        ask();
        learn();
        bad();
        off();
        behind();
        twins();
        idle();
        drops();
        misprints();
        misprint();
        turned();
        alike();
        spare();
        strict();
        chance();
        rests();
        drafts();
        mark();
        count();
        doc.promises(1, 43);
        doc.end();
    }

    /** What is no word where there are so many. */
    private static int[] noWords(int words) {
        return new int[] {-1, -2, words, words + 1, 4, 5, 8, 60, 97, LEAST, GREATEST};
    }

    /** What is no row where there are so many. */
    private static int[] noRows(int rows) {
        return new int[] {-1, -2, rows, rows + 1, 8, 9, 60, 100, LEAST, GREATEST};
    }

    private static ForeignKnit noneFits() {
        ForeignKnit x = Checks.of(SCARF);
        x.tell(1, 9);
        return x;
    }

    /** A book of so many words, each in a row of its own. */
    private static ForeignKnit wordsOf(int words) {
        StringBuilder text = new StringBuilder();
        for (int word = 0; word < words; word++) {
            char name = (char) ('a' + word);
            text.append("word ").append(name).append(" any;row ").append(name).append(';');
        }
        return Checks.of(text.toString());
    }

    /** A book of so many rows. */
    private static ForeignKnit rowsOf(int rows) {
        return Checks.of("word a any;" + "row a;".repeat(rows));
    }

    // the object

    private static void calls() {
        doc.says("What it is", "An object is used for at most 512 calls after it has been made");
        ForeignKnit x = new ForeignKnit();
        for (int i = 0; i < 500; i++) {
            x.feed(' ', 'a', ' ');
        }
        doc.due("call 501: a full tape", x.count(8), 1000);
        doc.due("call 502", x.book(), 1 + 16);
        doc.due("calls up to 506", Checks.feed(x, SCARF), SCARF.length());
        doc.due("call 507", x.book(), 0);
        doc.due("call 508", x.tell(1, 2), 3);
        doc.due("call 509", x.fits(), 1);
        doc.due("call 510", x.undo(), true);
        doc.due("call 511", x.line(1, 3), 3);
        doc.due("call 512", x.sure(1), 7);
        ForeignKnit y = Checks.of(SCARF);
        for (int i = 0; i < 250; i++) {
            y.tell(i % 2, i % 100);
            y.fits();
        }
        doc.due("the last of many by hand", y.tell(1, 3), 49);
        doc.due("before them", y.tell(0, 4), 48);
        doc.due("one fits behind them", y.fits(), 1);
    }

    private static void constants() {
        doc.says("The constants", "`NONE = -1`: None.");
        doc.due("NONE", ForeignKnit.NONE, -1);
    }

    private static void newObject() {
        doc.says("Promise 1", "Nothing.");
        ForeignKnit x = new ForeignKnit();
        for (int what = 0; what <= 8; what++) {
            doc.due("count(" + what + ")", x.count(what), what == 5 ? 1 : 0);
        }
        doc.due("no word", x.term(0, 0), -2);
        doc.due("no row", x.line(0, 0), -2);
        doc.due("no mark", x.mark(0, true), false);
        doc.due("nothing to undo", x.undo(), false);
        doc.due("an empty tape is an empty book", x.book(), 0);
        ForeignKnit other = Checks.of(SCARF);
        doc.due("what is done with another one is not done with it", x.count(0), 0);
        doc.due("and that one has its own", other.count(0), 2);
    }

    private static void feed() {
        doc.says("Promise 2", "Up to 24 signs come behind the TAPE");
        long eight = 0x6162636465666768L;
        ForeignKnit x = new ForeignKnit();
        doc.due("none", x.feed(0, 0, 0), 0);
        doc.due("one", x.feed(0, 'a', 0), 1);
        doc.due("24", x.feed(eight, eight, eight), 25);
        doc.due("24 more", x.feed(eight, eight, eight), 49);
        doc.says("Promise 2", "others than 10 and 32 .. 126, and what is beyond 1,000, are left out: how many there are.");
        ForeignKnit y = new ForeignKnit();
        doc.due("others", y.feed(0x00090B0C0D1F7F80L, -1, 0x8A8D9FA0FEFFC1E1L), 0);
        doc.due("others among good ones", y.feed(0x000A1F207E7FFF61L, 0, 0), 4);
        ForeignKnit z = new ForeignKnit();
        for (int i = 0; i < 41; i++) {
            z.feed(eight, eight, eight);
        }
        doc.due("984", z.count(8), 984);
        doc.due("15 more", z.feed(eight, eight >>> 8, 0), 999);
        doc.due("one and 23 beyond", z.feed(eight, eight, eight), 1000);
        doc.due("all beyond", z.feed(eight, eight, eight), 1000);
        doc.due("none beyond", z.feed(0, 0, 0), 1000);
        ForeignKnit middle = new ForeignKnit();
        Checks.feed(middle, " ".repeat(991));
        doc.due("the last of nine", middle.feed(0x776F726420612061L, 0x6E793B2020202020L, 0), 1000);
        doc.due("word a a is all there is of it", middle.book(), 1 + 16 * 998);
    }

    private static void feedInOrder() {
        doc.says("Promise 2", "the bytes of a, b, c, of each the highest first");
        ForeignKnit x = new ForeignKnit();
        doc.due("word a any;", x.feed(0x776F72642061L, 0x20616EL, 0x793BL << 48), 11);
        doc.due("is a book", x.book(), 0);
        doc.due("of a word", x.count(0), 1);
        doc.due("each byte in its place", x.feed((long) 'c' << 56 | (long) 'a' << 48 | (long) 's' << 40 | (long) 't' << 32
            | 's' << 24 | '1' << 16 | '2' << 8 | ';', 0, 0), 8);
        doc.due("is a book", x.book(), 0);
        doc.due("that casts twelve", x.count(2), 12);
    }

    private static void book() {
        doc.says("Promise 3", "0, or its FAULT (all stays then)");
        ForeignKnit x = Checks.of(SCARF);
        x.guess(0, 1, 1);
        x.tell(0, 4);
        x.mark(2, false);
        Checks.notes(x, "drop 0;drop 1;");
        String[] faulty = {"#", "word a any;casts 9;row a 7;after 0 is 5;rules 0;row", "word b any;word b",
            "rules takes;word z less;row z 60"};
        int[] faults = {1, 1 + 16 * 51, 3 + 16 * 16, 4 + 16 * 30};
        for (int i = 0; i < faulty.length; i++) {
            doc.due("book of " + faulty[i], Checks.book(x, faulty[i]), faults[i]);
            doc.due("words", x.count(0), 2);
            doc.due("rows", x.count(1), 2);
            doc.due("casts", x.count(2), 4);
            doc.due("guessed", x.count(3), 1);
            doc.due("counts", x.count(4), 3);
            doc.due("dictionaries", x.count(5), 27);
            doc.due("notes", x.count(6), 2);
            doc.due("what can be undone", x.count(7), 2);
            doc.due("the tape is taken", x.count(8), 0);
            doc.due("fits", x.fits(), 1);
            doc.due("judged", x.judged(0), 0);
            doc.due("the rows' words", x.there(1, 1), 1);
            doc.due("uses", x.term(0, 3), 6);
            doc.due("kinds", x.term(1, 0), 3);
        }
        doc.due("the mark is there", x.mark(2, true), true);
        doc.due("names stay", Checks.notes(x, "guess qq 2 1;forget pp;"), 0);
        doc.due("without a fault", Checks.book(x, HAT), 0);
        doc.due("nothing stays", x.count(3), 0);
    }

    private static void notes() {
        doc.says("Promise 4", "The TAPE is read as NOTES, likewise.");
        ForeignKnit x = Checks.of(SCARF);
        doc.due("two lines", Checks.notes(x, "drop 0;drop 1;"), 0);
        doc.due("a fault", Checks.notes(x, "tell 1 9;drop 1;tell 9"), 4 + 16 * 21);
        doc.due("the lines stay", x.count(6), 2);
        doc.due("they are judged", x.judged(0), 0);
        doc.due("how many fit", x.judged(2), 2);
        doc.due("the tape is taken", x.count(8), 0);
        doc.due("a book is no notes", Checks.notes(x, HAT), 1);
        doc.due("they stay again", x.count(6), 2);
        doc.due("notes are no book", Checks.book(x, "drop 0;"), 1);
        doc.due("none", Checks.notes(x, ""), 0);
        doc.due("no lines", x.count(6), 0);
    }

    private static void term() {
        doc.says("Promise 5", "(NONE: none)");
        ForeignKnit x = Checks.of(FULL);
        for (int word = 0; word < 4; word++) {
            doc.due("none guessed", x.term(word, 1), -1);
            x.guess(word, 0, 0);
            doc.due("(0, 0) is guessed", x.term(word, 1), 0);
        }
        doc.says("Promise 5", "-2: others");
        for (int what : new int[] {-1, -2, 4, 5, LEAST, GREATEST}) {
            doc.due("what " + what, x.term(0, what), -2);
        }
        for (int words = 0; words <= 4; words++) {
            for (int what = 0; what < 4; what++) {
                for (int word : noWords(words)) {
                    doc.due("of " + words + " words " + word + ", what " + what, wordsOf(words).term(word, what), -2);
                }
                if (words > 0) {
                    doc.due("the last of " + words + ", what " + what, wordsOf(words).term(words - 1, what) != -2, true);
                }
            }
        }
    }

    private static void line() {
        doc.says("Promise 6", "(NONE: none)");
        ForeignKnit x = Checks.of(FULL);
        for (int row = 0; row < 8; row++) {
            doc.due("no count", x.line(row, 1), -1);
            x.tell(row, 0);
            doc.due("a count of 0", x.line(row, 1), 0);
        }
        doc.says("Promise 6", "-2: others");
        for (int what : new int[] {-1, -2, 4, 5, LEAST, GREATEST}) {
            doc.due("what " + what, x.line(0, what), -2);
        }
        for (int rows = 0; rows <= 8; rows++) {
            for (int what = 0; what < 4; what++) {
                for (int row : noRows(rows)) {
                    doc.due("of " + rows + " rows " + row + ", what " + what, rowsOf(rows).line(row, what), -2);
                }
                if (rows > 0) {
                    doc.due("the last of " + rows + ", what " + what, rowsOf(rows).line(rows - 1, what) != -2, true);
                }
            }
        }
    }

    private static void there() {
        doc.says("Promise 7", "NONE: others, no i-th one");
        ForeignKnit x = Checks.of(FREE + "row d 3 c;row b;row (a 20)3;");
        for (int row : noRows(3)) {
            doc.due("row " + row, x.there(row, 0), -1);
        }
        doc.due("the last of four", x.there(0, 3), 2);
        doc.due("the fifth of four", x.there(0, 4), -1);
        doc.due("the second of one", x.there(1, 1), -1);
        doc.due("the last of sixty", x.there(2, 59), 0);
        for (int i : new int[] {-1, -2, 60, 61, LEAST, GREATEST}) {
            doc.due("the place " + i, x.there(2, i), -1);
        }
        doc.due("without a book", new ForeignKnit().there(0, 0), -1);
    }

    // by hand

    private static void guess() {
        doc.says("Promise 8", "the MEANING ahead (NONE: none)");
        ForeignKnit x = Checks.of(SCARF);
        doc.due("none", x.guess(0, 0, 0), -1);
        doc.due("(0, 0)", x.guess(0, 2, 2), 0);
        doc.due("(2, 2)", x.guess(0, 2, 2), 8);
        doc.due("none of the other word", x.guess(1, 2, 1), -1);
        x.forget(0);
        doc.due("none again", x.guess(0, 1, 1), -1);
        doc.says("Promise 8", "-2: others, no MEANING of it");
        int steps = x.count(7);
        for (int word : noWords(2)) {
            doc.due("word " + word, x.guess(word, 1, 0), -2);
        }
        for (int number : new int[] {-1, -2, -3, 3, 4, 9, LEAST, GREATEST}) {
            doc.due("takes " + number, x.guess(0, number, 0), -2);
            doc.due("leaves " + number, x.guess(0, 0, number), -2);
        }
        doc.due("takes 1, leaves -2", x.guess(0, 1, -2), -2);
        doc.due("takes 3, leaves -4", x.guess(0, 3, -4), -2);
        for (int meaning : new int[] {0, 1, 2, 4, 5, 8}) {
            doc.due("no less: " + meaning, x.guess(1, meaning / 3, meaning % 3), -2);
        }
        doc.due("by the rules", Checks.of("word a any;rules takes = 1;").guess(0, 2, 1), -2);
        doc.due("nothing is done", x.count(7), steps);
        doc.due("guesses stay", x.term(0, 1) * 10 + x.term(1, 1), 47);
        doc.due("without a book", new ForeignKnit().guess(0, 1, 1), -2);
    }

    private static void forget() {
        doc.says("Promise 9", "NONE: others, it is not GUESSED");
        ForeignKnit x = Checks.of(SCARF);
        doc.due("not guessed", x.forget(0), -1);
        x.guess(0, 0, 0);
        doc.due("the other one is not", x.forget(1), -1);
        for (int word : noWords(2)) {
            doc.due("word " + word, x.forget(word), -1);
        }
        doc.due("nothing is done", x.count(7), 1);
        doc.due("(0, 0)", x.forget(0), 0);
        doc.due("not guessed any more", x.forget(0), -1);
        doc.due("one thing is done", x.count(7), 2);
        doc.due("without a book", new ForeignKnit().forget(0), -1);
        ForeignKnit rows = rowsOf(8);
        rows.tell(0, 5);
        doc.due("a row's count is no guess", rows.forget(4), -1);
        doc.due("it stays", rows.line(0, 1), 5);
    }

    private static void tell() {
        doc.says("Promise 10", "TELL (0 to 99): the count ahead (NONE: none)");
        ForeignKnit x = Checks.of(SCARF);
        doc.due("none", x.tell(0, 0), -1);
        doc.due("0", x.tell(0, 99), 0);
        doc.due("99", x.tell(0, 99), 99);
        doc.due("the one of the book", x.tell(1, 3), 3);
        doc.says("Promise 10", "-2: others");
        for (int row : noRows(2)) {
            doc.due("row " + row, x.tell(row, 1), -2);
        }
        for (int stitches : new int[] {-1, -2, 100, 101, LEAST, GREATEST}) {
            doc.due("stitches " + stitches, x.tell(0, stitches), -2);
        }
        doc.due("nothing is done", x.count(7), 4);
        doc.due("counts stay", x.line(0, 1), 99);
        doc.due("without a book", new ForeignKnit().tell(0, 1), -2);
    }

    private static void drop() {
        doc.says("Promise 11", "NONE: others, it has none");
        ForeignKnit x = Checks.of(SCARF);
        doc.due("it has none", x.drop(0), -1);
        for (int row : noRows(2)) {
            doc.due("row " + row, x.drop(row), -1);
        }
        doc.due("nothing is done", x.count(7), 0);
        x.tell(0, 0);
        doc.due("0", x.drop(0), 0);
        doc.due("none any more", x.drop(0), -1);
        doc.due("the one of the book", x.drop(1), 3);
        doc.due("without a book", new ForeignKnit().drop(0), -1);
    }

    private static void undo() {
        doc.says("Promise 12", "UNDO: true; false: nothing can be.");
        ForeignKnit x = Checks.of(SCARF);
        doc.due("nothing is done", x.undo(), false);
        x.drop(1);
        doc.due("a thing", x.undo(), true);
        doc.due("no other one", x.undo(), false);
        doc.due("all stays", x.line(1, 1), 3);
        x.tell(1, 5);
        x.mark(0, false);
        x.mark(0, true);
        doc.due("behind a mark gone back to", x.undo(), false);
        doc.due("all stays", x.line(1, 1), 5);
        x.tell(1, 6);
        Checks.book(x, SCARF);
        doc.due("behind a book", x.undo(), false);
        doc.due("without a book", new ForeignKnit().undo(), false);
    }

    private static void judged() {
        doc.says("Promise 13", "what 0, 1: lines (NONE: none), 2: how many; -2: others");
        ForeignKnit x = Checks.of(SCARF);
        doc.due("no line that can't be", x.judged(0), -1);
        doc.due("no line behind which none fits", x.judged(1), -1);
        doc.due("how many", x.judged(2), 1);
        Checks.notes(x, "forget pp;tell 1 9;");
        doc.due("line 0", x.judged(0), 0);
        doc.due("line 1", x.judged(1), 1);
        doc.due("none", x.judged(2), 0);
        for (int what : new int[] {-1, -2, 3, 4, LEAST, GREATEST}) {
            doc.due("what " + what, x.judged(what), -2);
        }
        doc.due("without a book", new ForeignKnit().judged(0), -1);
    }

    // dictionaries

    private static void fits() {
        doc.says("Promise 14", "FITS.");
        doc.due("without a book", new ForeignKnit().fits(), 1);
        doc.due("none", noneFits().fits(), 0);
        doc.due("all", Checks.of(FREE).fits(), 6561);
        doc.due("one", Checks.of(FULL).fits(), 1);
    }

    private static void entry() {
        doc.says("Promise 15", "NONE: others, none of that number FITS");
        ForeignKnit x = Checks.of(FREE);
        for (int word : noWords(4)) {
            doc.due("word " + word, x.entry(0, word), -1);
        }
        for (int number : new int[] {-1, -2, 6561, 6562, LEAST, GREATEST}) {
            doc.due("number " + number, x.entry(number, 0), -1);
        }
        doc.due("the last one", x.entry(6560, 3), 8);
        x.guess(0, 0, 0);
        doc.due("the last one that fits", x.entry(728, 3), 8);
        doc.due("the next one", x.entry(729, 3), -1);
        doc.due("none fits", noneFits().entry(0, 0), -1);
        doc.due("without a word", new ForeignKnit().entry(0, 0), -1);
        doc.due("the second one of one", Checks.of(SCARF).entry(1, 0), -1);
        doc.due("a word that is none in a book of two", Checks.of(SCARF).entry(0, 2), -1);
    }

    private static void could() {
        doc.says("Promise 16", "NONE: others");
        for (int word : noWords(2)) {
            doc.due("word " + word, Checks.of(SCARF).could(word), -1);
            doc.due("word " + word + ", none fits", noneFits().could(word), -1);
        }
        doc.due("none fits", noneFits().could(0), 0);
        doc.due("without a book", new ForeignKnit().could(0), -1);
        doc.due("word 3 of four", Checks.of(FREE).could(3), 511);
    }

    private static void sure() {
        doc.says("Promise 17", "NONE: others, none FITS, it is not the same");
        for (int word : noWords(2)) {
            doc.due("word " + word, Checks.of(SCARF).sure(word), -1);
        }
        doc.due("none fits", noneFits().sure(0), -1);
        ForeignKnit x = Checks.of(SCARF);
        doc.due("the same", x.sure(1), 7);
        x.drop(1);
        doc.due("not the same", x.sure(1), -1);
        doc.due("the same in both", x.sure(0), 4);
        doc.due("without a book", new ForeignKnit().sure(0), -1);
        doc.due("(0, 0) of word 3", Checks.of(FULL).sure(3), 0);
    }

    private static void fixed() {
        doc.says("Promise 18", "(0: none FITS)");
        doc.due("none fits", noneFits().fixed(), 0);
        doc.due("each word", Checks.of(FULL).fixed(), 15);
        doc.due("no word", Checks.of(FREE).fixed(), 0);
        doc.due("without a book", new ForeignKnit().fixed(), 0);
    }

    private static void with() {
        doc.says("Promise 19", "NONE: others");
        ForeignKnit x = Checks.of(FREE);
        for (int word : noWords(4)) {
            doc.due("word " + word, x.with(word, 1, 1), -1);
        }
        for (int number : new int[] {-1, -2, -3, 3, 4, 9, LEAST, GREATEST}) {
            doc.due("takes " + number, x.with(0, number, 0), -1);
            doc.due("leaves " + number, x.with(0, 0, number), -1);
        }
        doc.due("takes 1, leaves -1", x.with(0, 1, -1), -1);
        doc.due("takes 0, leaves 4", x.with(0, 0, 4), -1);
        doc.due("(0, 0)", x.with(3, 0, 0), 729);
        doc.due("(2, 2)", x.with(3, 2, 2), 729);
        doc.due("word 2 of two", Checks.of(SCARF).with(2, 1, 1), -1);
        doc.due("none fits", noneFits().with(0, 1, 1), 0);
        doc.due("without a book", new ForeignKnit().with(0, 1, 1), -1);
    }

    // stitches

    private static void leastAndMost() {
        doc.says("Promise 20", "NONE: others, none FITS");
        for (int row : noRows(2)) {
            doc.due("row " + row, Checks.of(SCARF).least(row), -1);
        }
        doc.due("none fits", noneFits().least(0), -1);
        doc.due("none behind it", Checks.of(FULL).least(7), 0);
        doc.due("without a book", new ForeignKnit().least(0), -1);
        doc.says("Promise 21", "NONE: others, none FITS");
        for (int row : noRows(2)) {
            doc.due("row " + row, Checks.of(SCARF).most(row), -1);
        }
        doc.due("none fits", noneFits().most(0), -1);
        doc.due("none behind it", Checks.of(FULL).most(7), 0);
        doc.due("without a book", new ForeignKnit().most(0), -1);
    }

    private static void kinds() {
        doc.says("Promise 22", "NONE: others");
        for (int row : noRows(2)) {
            doc.due("row " + row, Checks.of(SCARF).kinds(row), -1);
        }
        doc.due("none fits", noneFits().kinds(0), 0);
        doc.due("the last of eight", Checks.of(FULL).kinds(7), 1);
        doc.due("without a book", new ForeignKnit().kinds(0), -1);
    }

    private static void open() {
        doc.says("Promise 23", "OPEN, as bits.");
        doc.due("none fits", noneFits().open(), 0);
        doc.due("one fits", Checks.of(SCARF).open(), 0);
        doc.due("without a book", new ForeignKnit().open(), 0);
        ForeignKnit x = Checks.of(SCARF);
        x.drop(1);
        doc.due("the second row", x.open(), 2);
        doc.due("the first one", Checks.of(HAT).open(), 1);
    }

    private static void has() {
        doc.says("Promise 24", "NONE: others");
        ForeignKnit x = Checks.of(SCARF);
        for (int row : noRows(2)) {
            doc.due("row " + row, x.has(row, 3), -1);
        }
        for (int stitches : new int[] {-1, -2, 100, 101, 120, LEAST, GREATEST}) {
            doc.due("stitches " + stitches, x.has(0, stitches), -1);
        }
        doc.due("0", x.has(0, 0), 0);
        doc.due("4", x.has(0, 4), 1);
        doc.due("99", x.has(0, 99), 0);
        doc.due("none fits", noneFits().has(1, 9), 0);
        doc.due("without a book", new ForeignKnit().has(0, 0), -1);
        doc.due("0 behind the last of eight", Checks.of(FULL).has(7, 0), 1);
    }

    private static void ask() {
        doc.says("Promise 25", "NONE: none parts them");
        ForeignKnit x = Checks.of(SCARF);
        doc.due("one fits", x.ask(), -1);
        x.drop(1);
        doc.due("row 1 parts two", x.ask(), 1);
        x.tell(1, 9);
        doc.due("none fits", x.ask(), -1);
        doc.due("no rows", Checks.of(FREE).ask(), -1);
        doc.due("without a book", new ForeignKnit().ask(), -1);
    }

    private static void learn() {
        doc.says("Promise 26", "NONE: none parts them");
        ForeignKnit x = Checks.of(SCARF);
        doc.due("one fits", x.learn(), -1);
        x.drop(1);
        doc.due("word 1 parts two", x.learn(), 1);
        x.guess(1, 2, 0);
        doc.due("it is guessed", x.learn(), -1);
        x.tell(1, 9);
        doc.due("none fits", x.learn(), -1);
        doc.due("without a book", new ForeignKnit().learn(), -1);
    }

    // all guessed

    private static ForeignKnit guessed() {
        ForeignKnit x = Checks.of(SCARF);
        x.guess(0, 1, 1);
        x.guess(1, 2, 1);
        return x;
    }

    private static void bad() {
        doc.says("Promise 27", "NONE: none, not all are GUESSED");
        ForeignKnit x = guessed();
        doc.due("none", x.bad(), -1);
        x.guess(1, 1, 0);
        doc.due("the second row", x.bad(), 1);
        x.forget(0);
        doc.due("not the first word", x.bad(), -1);
        x.guess(0, 0, 0);
        doc.due("the first row", x.bad(), 0);
        x.forget(1);
        doc.due("not the last word", x.bad(), -1);
        doc.due("without a book", new ForeignKnit().bad(), -1);
        ForeignKnit four = Checks.of(FULL);
        for (int word = 3; word >= 0; word--) {
            doc.due("not all of four", four.bad(), -1);
            four.guess(word, 1, 1);
        }
        doc.due("all of four", four.bad(), 0);
    }

    private static void off() {
        doc.says("Promise 28", "(0: there is no BAD one, it GOES UP, not all are GUESSED)");
        ForeignKnit x = guessed();
        doc.due("there is no bad one", x.off(), 0);
        x.guess(1, 1, 0);
        doc.due("three of four", x.off(), -1);
        x.guess(1, 2, 0);
        doc.due("it goes up, but there are not as many", x.off(), 0);
        x.guess(0, 2, 2);
        doc.due("eight of four", x.off(), 4);
        x.forget(1);
        doc.due("not all are guessed", x.off(), 0);
        doc.due("without a book", new ForeignKnit().off(), 0);
    }

    private static void behind() {
        doc.says("Promise 29", "NONE: others, not all are GUESSED");
        ForeignKnit x = guessed();
        for (int row : noRows(2)) {
            doc.due("row " + row, x.behind(row), -1);
        }
        doc.due("row 0", x.behind(0), 4);
        doc.due("row 1", x.behind(1), 3);
        x.guess(0, 0, 0);
        doc.due("none behind it", x.behind(0), 0);
        x.forget(0);
        doc.due("not the first word", x.behind(0), -1);
        x.undo();
        x.forget(1);
        doc.due("not the last word", x.behind(0), -1);
        doc.due("without a book", new ForeignKnit().behind(0), -1);
    }

    // words, counts, misprints

    private static void twins() {
        doc.says("Promise 30", "(all pairs: none FITS)");
        int[] pairs = {0, 0, 1, 3, 6};
        for (int words = 1; words <= 4; words++) {
            ForeignKnit x = wordsOf(words);
            x.tell(0, 99);
            doc.due("of " + words + " words none fits", x.fits(), 0);
            doc.due("pairs of " + words, x.twins(), pairs[words]);
        }
        doc.due("of no words one fits", new ForeignKnit().twins(), 0);
        doc.due("no pair", Checks.of(SCARF).twins(), 0);
    }

    private static void idle() {
        doc.says("Promise 31", "IDLE, as bits.");
        doc.due("each", Checks.of(FREE).idle(), 15);
        doc.due("none", Checks.of(FULL).idle(), 0);
        doc.due("the last one", Checks.of(FREE + "row a b c;").idle(), 8);
        doc.due("without a book", new ForeignKnit().idle(), 0);
    }

    private static void drops() {
        doc.says("Promise 32", "NONE: by none");
        ForeignKnit x = Checks.of(SCARF);
        doc.due("nothing to be dropped", x.drops(), 0);
        x.tell(1, 9);
        doc.due("that one", x.drops(), 2);
        x.guess(0, 2, 2);
        doc.due("by none, for a guess", x.drops(), -1);
        doc.due("by none, for a row", Checks.of("word a any;rules takes;row a;").drops(), -1);
        doc.due("by none, for a word without a meaning", Checks.of("word a any;rules 0;").drops(), -1);
        doc.due("without a book", new ForeignKnit().drops(), 0);
    }

    private static void misprints() {
        doc.says("Promise 33", "MISPRINTS.");
        doc.due("without a book", new ForeignKnit().misprints(), 0);
        doc.due("no rows", Checks.of(FREE).misprints(), 0);
        doc.due("one word", rowsOf(8).misprints(), 0);
        doc.due("a word without a meaning", Checks.of("word a any;word b any;rules which;row a b;").misprints(), 0);
        // each of 60 places of each row may bear each of the three other words
        ForeignKnit most = Checks.of(FREE + "rules takes = 0 and leaves = 0;" + "row (a 20)3;".repeat(8));
        doc.due("the most that there can be", most.misprints(), 1440);
        doc.due("the first of them", most.misprint(0) * 100 + most.misprint(1) * 10 + most.misprint(2), 1);
    }

    private static void misprint() {
        doc.says("Promise 34", "NONE: others, there is none");
        ForeignKnit x = Checks.of("word a even;word b even;rules takes = 1;casts 2;row a a;");
        doc.due("the row", x.misprint(0), 0);
        doc.due("the place", x.misprint(1), 0);
        doc.due("the word", x.misprint(2), 1);
        for (int what : new int[] {-1, -2, 3, 4, LEAST, GREATEST}) {
            doc.due("what " + what, x.misprint(what), -1);
        }
        x.tell(0, 9);
        for (int what = 0; what < 3; what++) {
            doc.due("there is none, what " + what, x.misprint(what), -1);
            doc.due("without a book, what " + what, new ForeignKnit().misprint(what), -1);
        }
    }

    // rows

    private static void turned() {
        doc.says("Promise 35", "false: others");
        ForeignKnit x = rowsOf(3);
        for (int row : noRows(3)) {
            doc.due("row " + row, x.turned(row), false);
        }
        doc.due("row 2", x.turned(2), true);
        doc.due("without a book", new ForeignKnit().turned(0), false);
    }

    private static void alike() {
        doc.says("Promise 36", "false: others, the same ROW");
        ForeignKnit x = rowsOf(3);
        for (int row : noRows(3)) {
            doc.due("row " + row, x.alike(row, 0), false);
            doc.due("other " + row, x.alike(0, row), false);
            doc.due("both " + row, x.alike(row, row), false);
        }
        for (int row = 0; row < 3; row++) {
            doc.due("the same row " + row, x.alike(row, row), false);
        }
        doc.due("rows 0 and 2", x.alike(0, 2), true);
        doc.due("without a book", new ForeignKnit().alike(0, 1), false);
    }

    private static void spare() {
        doc.says("Promise 37", "SPARE, how many.");
        doc.due("without a book", new ForeignKnit().spare(), 0);
        ForeignKnit x = Checks.of(SCARF);
        doc.due("none: it parts two", x.spare(), 0);
        x.tell(0, 4);
        doc.due("the other one", x.spare(), 1);
        x.tell(1, 9);
        doc.due("none fits: the first one alone is no matter", x.spare(), 1);
    }

    private static void strict() {
        doc.says("Promise 38", "NONE: others");
        for (int row : noRows(2)) {
            doc.due("row " + row, Checks.of(SCARF).strict(row), -1);
            doc.due("row " + row + ", none fits", noneFits().strict(row), -1);
        }
        doc.due("row 0", Checks.of(HAT).strict(0), 18);
        doc.due("without a book", new ForeignKnit().strict(0), -1);
        doc.due("the last of eight", Checks.of(FULL).strict(7), 0);
    }

    private static void chance() {
        doc.says("Promise 39", "NONE: others, none FITS");
        ForeignKnit x = Checks.of(SCARF);
        for (int row : noRows(2)) {
            doc.due("row " + row, x.chance(row, 0), -1);
        }
        for (int stitches : new int[] {-1, -2, 100, 101, 120, LEAST, GREATEST}) {
            doc.due("stitches " + stitches, x.chance(0, stitches), -1);
        }
        doc.due("0", x.chance(0, 0), 1000000);
        doc.due("4", x.chance(0, 4), 1000000);
        doc.due("5", x.chance(0, 5), 0);
        doc.due("99", x.chance(0, 99), 0);
        doc.due("none fits", noneFits().chance(0, 0), -1);
        doc.due("without a book", new ForeignKnit().chance(0, 0), -1);
    }

    // needle, draws, marks, counts

    private static int rest(int lose, int casts, int waits, int what) {
        try {
            return new ForeignKnit().rests(lose, casts, waits, what);
        } catch (NoSuchElementException e) {
            return THROWN;
        }
    }

    private static void rests() {
        doc.says("Promise 40", "what NONE: how many; i: the i-th as 2 * the first one's choice + the other one's (1 casts off; "
            + "the least first)");
        doc.due("how many", rest(2, 5, 1, -1), 2);
        doc.due("the first one waits", rest(2, 5, 1, 0), 1);
        doc.due("the first one casts off", rest(2, 5, 1, 1), 2);
        for (int i = 0; i < 4; i++) {
            doc.due("each is one: " + i, rest(0, 0, 0, i), i);
        }
        doc.due("both wait first", rest(1, 0, 0, 0), 0);
        doc.due("both cast off last", rest(0, 1, 0, 2), 3);
        doc.says("Promise 40", "NoSuchElementException: others, none such.");
        doc.due("the third of two", rest(2, 5, 1, 2), THROWN);
        doc.due("the fifth of four", rest(0, 0, 0, 4), THROWN);
        for (int what : new int[] {-2, -3, 5, LEAST, GREATEST}) {
            doc.due("what " + what, rest(0, 0, 0, what), THROWN);
        }
        for (int number : new int[] {-1, -2, 10, 11, LEAST, GREATEST}) {
            for (int what = -1; what < 1; what++) {
                doc.due("lose " + number, rest(number, 1, 1, what), THROWN);
                doc.due("casts " + number, rest(1, number, 1, what), THROWN);
                doc.due("waits " + number, rest(1, 1, number, what), THROWN);
            }
        }
        doc.due("all 9", rest(9, 9, 9, -1), 2);
        doc.due("all 0", rest(0, 0, 0, -1), 4);
    }

    private static void drafts() {
        doc.says("Promise 41", "a SEED (0 to 9999), what 0, 1: how many, 2: which (NONE: none); -2: others");
        ForeignKnit x = Checks.of(FREE);
        doc.due("seed 0", x.drafts(0, 5, 0), 5);
        doc.due("seed 9999", x.drafts(9999, 5, 0), 5);
        for (int what = 0; what < 3; what++) {
            for (int seed : new int[] {-1, -2, 10000, 10001, LEAST, GREATEST}) {
                doc.due("seed " + seed + ", what " + what, x.drafts(seed, 5, what), -2);
            }
            for (int many : new int[] {0, -1, 100, 101, LEAST, GREATEST}) {
                doc.due("many " + many + ", what " + what, x.drafts(1, many, what), -2);
            }
        }
        for (int what : new int[] {-1, -2, 3, 4, LEAST, GREATEST}) {
            doc.due("what " + what, x.drafts(1, 1, what), -2);
        }
        doc.due("which", x.drafts(0, 1, 2), 0);
        doc.due("none fits", noneFits().drafts(0, 99, 2), -1);
        doc.due("how many of none", noneFits().drafts(0, 99, 0), 0);
        ForeignKnit none = Checks.of("word a any;rules 0;");
        doc.due("a word without a meaning, seed -1", none.drafts(-1, 1, 0), -2);
        doc.due("a word without a meaning, what 3", none.drafts(1, 1, 3), -2);
    }

    private static void mark() {
        doc.says("Promise 42", "true; false: none such, nothing is on it (back)");
        ForeignKnit x = Checks.of(SCARF);
        for (int mark : new int[] {-1, -2, 4, 5, LEAST, GREATEST}) {
            doc.due("mark " + mark, x.mark(mark, false), false);
            doc.due("back to " + mark, x.mark(mark, true), false);
        }
        x.tell(0, 4);
        for (int mark = 0; mark < 4; mark++) {
            doc.due("nothing is on " + mark, x.mark(mark, true), false);
            doc.due("what can be undone stays", x.count(7), 1);
            doc.due("laid " + mark, x.mark(mark, false), true);
            doc.due("once more " + mark, x.mark(mark, false), true);
        }
        for (int mark = 0; mark < 4; mark++) {
            doc.due("back to " + mark, x.mark(mark, true), true);
        }
        ForeignKnit empty = new ForeignKnit();
        doc.due("without a book", empty.mark(3, true), false);
        doc.due("laid", empty.mark(3, false), true);
        doc.due("gone back to", empty.mark(3, true), true);
        Checks.book(empty, "");
        doc.due("an empty book takes it away", empty.mark(3, true), false);
    }

    private static void count() {
        doc.says("Promise 43", "NONE for another what.");
        ForeignKnit x = Checks.of(SCARF);
        for (int what : new int[] {-1, -2, 9, 10, LEAST, GREATEST}) {
            doc.due("what " + what, x.count(what), -1);
        }
        doc.says("Promise 43", "3: GUESSED words, as bits, 4: ROWS with a count, as bits");
        ForeignKnit full = Checks.of(FULL);
        int bits = 0;
        for (int word = 3; word >= 0; word--) {
            bits |= 1 << word;
            full.guess(word, 0, 0);
            doc.due("words", full.count(3), bits);
        }
        bits = 0;
        for (int row = 7; row >= 0; row--) {
            bits |= 1 << row;
            full.tell(row, 0);
            doc.due("rows", full.count(4), bits);
        }
        doc.says("Promise 43", "5: DICTIONARIES, whether they FIT or not, 6: lines of the NOTES, 7: what can be undone, 8: "
            + "signs on the TAPE");
        doc.due("dictionaries", full.count(5), 6561);
        doc.due("though one fits", full.fits(), 1);
        doc.due("of no words", new ForeignKnit().count(5), 1);
        doc.due("where a word has no meaning", Checks.of("word a any;rules 0;").count(5), 0);
        Checks.notes(full, "drop 0;".repeat(40));
        doc.due("lines", full.count(6), 40);
        doc.due("what can be undone", full.count(7), 12);
        Checks.feed(full, " ".repeat(1001));
        doc.due("signs", full.count(8), 1000);
        doc.due("of none", x.count(8), 0);
    }
}
