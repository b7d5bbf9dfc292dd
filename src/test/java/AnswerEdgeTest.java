/** The boundary cases that part 3 of the document's Terms names: what is answered of books, dictionaries, rows. */
public final class AnswerEdgeTest {
    private static final String TERMS = "Terms 3";
    // pp must be (1, 1), qq (2, 1): without its count qq may be (2, 0) too
    private static final String SCARF = "word pp any;word qq less;casts 4;row pp 4;row pp qq pp;after 1 is 3;";
    // every one of the 243 dictionaries fits
    private static final String LOOSE = "word aa any;word bb even;word cc grows;word dd less;";
    private static final String FREE = "word a any;word b any;word c any;word d any;";
    // takes: 0 2, 1 1, 2 0; nine fit, with 0, 1, 2 / 1, 2, 3 / 2, 3, 4 stitches behind the row
    private static final String HAT = "word aa even;word bb any;casts 2;row aa bb;";
    // five fit, aa and bb (0, 0) (2, 0); (1, 0) (1, 2); (1, 1) (1, 1); (1, 2) (1, 0); (2, 2) (0, 2);
    // behind the rows there are 0 0, 2 0, 2 2, 2 4, 4 4
    private static final String PAIR = "word aa any;word bb any;casts 2;row aa bb;row aa 2;";
    // aa is (1, 1)
    private static final String ONE = "word aa even;rules takes = 1;";
    // one fits: aa leaves 2, bb leaves 1; behind the row there are 99
    private static final String WIDE = "word aa any;word bb any;rules takes = 0 and leaves = 2 - which;"
        + "row (aa 7)7 bb;";
    // one fits, it leaves 120
    private static final String WIDEST = "word aa any;rules leaves = 2;casts 60;row (aa 20)3;";
    // aa is (1, 1), bb may leave 0, 1 or 2
    private static final String LAST = "word aa any;word bb any;rules takes = 1 and (which or leaves = 1);casts 1;"
        + "row aa;row aa;row aa;row aa;row aa;row aa;row aa;row bb;";
    // kk is (1, 1), dd is (2, 1): the last row takes four of three
    private static final String SLIP = "word kk even;word dd less;rules takes = 1 and leaves = 1 or takes = 2 and leaves = 1;"
        + "casts 4;row kk dd kk;row kk 3;row dd dd;";

    private static final Edges doc = new Edges("AnswerEdgeTest");

    private AnswerEdgeTest() {
    }

    public static void main(String[] args) {
        order();
        fitting();
        couldAndSure();
        fixedAndWith();
        leastAndMost();
        kindsAndOpen();
        has();
        ask();
        learn();
        bad();
        off();
        twins();
        idle();
        drops();
        misprints();
        misprintOrder();
        turned();
        alike();
        beat();
        brief();
        uses();
        spare();
        strict();
        chance();
        rests();
        draws();
        drafts();
        draftsOfNothing();
        marks();
        doc.end();
    }

    private static void says(String sentence) {
        doc.says(TERMS, sentence);
    }

    private static void entry(ForeignKnit x, int number, int... meanings) {
        for (int word = 0; word < meanings.length; word++) {
            doc.due("entry(" + number + ", " + word + ")", x.entry(number, word), meanings[word]);
        }
    }

    // dictionaries

    private static void order() {
        says("DICTIONARIES are numbered from 0 by their MEANINGS, those of word 0 first, each by what it TAKES, then LEAVES.");
        ForeignKnit free = Checks.of(FREE);
        entry(free, 0, 0, 0, 0, 0);
        entry(free, 1, 0, 0, 0, 1);
        entry(free, 8, 0, 0, 0, 8);
        entry(free, 9, 0, 0, 1, 0);
        entry(free, 81, 0, 1, 0, 0);
        entry(free, 729, 1, 0, 0, 0);
        entry(free, 6560, 8, 8, 8, 8);
        ForeignKnit loose = Checks.of(LOOSE);
        entry(loose, 1, 0, 0, 1, 6);
        entry(loose, 3, 0, 0, 2, 3);
        entry(loose, 242, 8, 8, 5, 7);
        ForeignKnit one = Checks.of("word a any;");
        for (int number = 0; number < 9; number++) {
            entry(one, number, number);
        }
        says("ENTRY of a number: the MEANING of a word in the DICTIONARY of that number, of those that FIT.");
        free.guess(0, 1, 1);
        entry(free, 0, 4, 0, 0, 0);
        entry(free, 728, 4, 8, 8, 8);
        entry(free, 729, -1, -1, -1, -1);
        ForeignKnit pair = Checks.of(PAIR);
        entry(pair, 0, 0, 6);
        entry(pair, 1, 3, 5);
        entry(pair, 4, 8, 2);
        entry(pair, 5, -1, -1);
    }

    private static void fitting() {
        says("FITS: how many FIT.");
        doc.due("none", Checks.of(SLIP).fits(), 0);
        doc.due("one", Checks.of(SCARF).fits(), 1);
        doc.due("the one without any word", new ForeignKnit().fits(), 1);
        doc.due("all", Checks.of(FREE).fits(), 6561);
        doc.due("some", Checks.of(PAIR).fits(), 5);
    }

    private static void couldAndSure() {
        says("COULD of a word: MEANINGS that it has in any that FITS (bits, bit 3 * TAKES + LEAVES).");
        ForeignKnit x = Checks.of("word a any;");
        doc.due("all nine", x.could(0), 511);
        for (int meaning = 0; meaning < 9; meaning++) {
            x.guess(0, meaning / 3, meaning % 3);
            doc.due("meaning " + meaning, x.could(0), 1 << meaning);
        }
        ForeignKnit pair = Checks.of(PAIR);
        doc.due("some of it", pair.could(0), 1 << 0 | 1 << 3 | 1 << 4 | 1 << 5 | 1 << 8);
        doc.due("none fits", Checks.of(SLIP).could(0), 0);
        says("SURE of a word: its MEANING, if it is the same in all.");
        for (int meaning = 0; meaning < 9; meaning++) {
            x.guess(0, meaning / 3, meaning % 3);
            doc.due("meaning " + meaning, x.sure(0), meaning);
        }
        x.forget(0);
        doc.due("not the same", x.sure(0), -1);
        doc.due("not the same in five", pair.sure(0), -1);
        doc.due("none fits", Checks.of(SLIP).sure(0), -1);
        ForeignKnit last = Checks.of(LAST);
        doc.due("the same in three", last.sure(0), 4);
        doc.due("another one in each", last.sure(1), -1);
    }

    private static void fixedAndWith() {
        says("FIXED: words of which one is sure (bits).");
        ForeignKnit x = Checks.of(FREE);
        doc.due("none", x.fixed(), 0);
        int bits = 0;
        for (int word = 3; word >= 0; word--) {
            x.guess(word, 0, 0);
            bits |= 1 << word;
            doc.due("word " + word, x.fixed(), bits);
        }
        doc.due("none fits", Checks.of(SLIP).fixed(), 0);
        says("WITH of a word and a MEANING: in how many it has that.");
        ForeignKnit loose = Checks.of(LOOSE);
        doc.due("the first meaning of any", loose.with(0, 0, 0), 27);
        doc.due("the last one", loose.with(0, 2, 2), 27);
        doc.due("one of three", loose.with(3, 2, 1), 81);
        ForeignKnit pair = Checks.of(PAIR);
        doc.due("one that it has in none", pair.with(0, 2, 1), 0);
        doc.due("one that it has in one", pair.with(0, 2, 2), 1);
        doc.due("none fits", Checks.of(SLIP).with(0, 1, 1), 0);
        doc.due("all", Checks.of(LAST).with(0, 1, 1), 3);
    }

    // stitches

    private static void leastAndMost() {
        says("LEAST, MOST of a ROW: the fewest, the most stitches that there are behind it, by those that FIT.");
        ForeignKnit hat = Checks.of(HAT);
        doc.due("the fewest are none", hat.least(0), 0);
        doc.due("the most", hat.most(0), 4);
        doc.due("never fewer than 120", Checks.of(WIDEST).least(0), 120);
        doc.due("120", Checks.of(WIDEST).most(0), 120);
        ForeignKnit last = Checks.of(LAST);
        doc.due("the last row, the fewest", last.least(7), 0);
        doc.due("the last row, the most", last.most(7), 2);
        hat.tell(0, 4);
        doc.due("told, the fewest", hat.least(0), 4);
        doc.due("told, the most", hat.most(0), 4);
        hat.tell(0, 0);
        doc.due("none told, the most", hat.most(0), 0);
    }

    private static void kindsAndOpen() {
        says("KINDS of a ROW: how many numbers of stitches there are behind it, by those.");
        doc.due("five", Checks.of(HAT).kinds(0), 5);
        doc.due("three of five that fit", Checks.of(PAIR).kinds(0), 3);
        doc.due("one", Checks.of(WIDEST).kinds(0), 1);
        doc.due("none fits", Checks.of(SLIP).kinds(0), 0);
        // aa leaves 0 to 2, sixty times
        doc.due("from 0 to 120", Checks.of("word aa any;rules takes = 0;row (aa 20)3;").kinds(0), 3);
        says("OPEN: ROWS behind which there are not as many by all of those (bits).");
        doc.due("the first row", Checks.of(HAT).open(), 1);
        doc.due("the last one of eight", Checks.of(LAST).open(), 128);
        doc.due("both", Checks.of(PAIR).open(), 3);
        doc.due("none", Checks.of(SCARF).open(), 0);
        doc.due("none fits", Checks.of(SLIP).open(), 0);
        ForeignKnit two = Checks.of(HAT);
        two.guess(0, 2, 2);
        two.guess(1, 0, 0);
        doc.due("one fits", two.open(), 0);
        two.forget(1);
        doc.due("three fit", two.open(), 1);
    }

    private static void has() {
        says("HAS of a ROW and a number (0 to 99): by how many of those there are so many.");
        ForeignKnit hat = Checks.of(HAT);
        int[] times = {1, 2, 3, 2, 1, 0};
        for (int i = 0; i < times.length; i++) {
            doc.due("has " + i, hat.has(0, i), times[i]);
        }
        doc.due("-1", hat.has(0, -1), -1);
        doc.due("99 of 99", Checks.of(WIDE).has(0, 99), 1);
        doc.due("98 of 99", Checks.of(WIDE).has(0, 98), 0);
        doc.due("100", Checks.of(WIDE).has(0, 100), -1);
        doc.due("120 of 120 can't be asked", Checks.of(WIDEST).has(0, 120), -1);
        doc.due("99 of 120", Checks.of(WIDEST).has(0, 99), 0);
        doc.due("none fits", Checks.of(SLIP).has(0, 3), 0);
    }

    private static void ask() {
        says("ASK: the ROW without a count of which the greatest number of those that FIT by which there are as many behind "
            + "it is the least, if that is less than all; of equal ones the first.");
        ForeignKnit pair = Checks.of(PAIR);
        doc.due("the greatest of row 0 is 3, of row 1 it is 2", pair.ask(), 1);
        pair.tell(1, 4);
        doc.due("not one with a count: the greatest of row 0 is 1 of 2", pair.ask(), 0);
        pair.tell(0, 4);
        doc.due("all have a count", pair.ask(), -1);
        doc.due("the last one of eight", Checks.of(LAST).ask(), 7);
        doc.due("one fits: none is less than all", Checks.of(WIDEST).ask(), -1);
        doc.due("as many behind each", Checks.of("word aa even;word bb any;casts 2;row aa 2;row aa 2;").ask(), -1);
        doc.due("none fits", Checks.of(SLIP).ask(), -1);
        doc.due("no rows", Checks.of(FREE).ask(), -1);
        ForeignKnit bare = Checks.of("word a any;word b any;rules leaves = 0;casts 2;row a b;");
        doc.due("none behind it by each of three", bare.ask(), -1);
        // cc is (1, 1), aa (1, 0 to 2), bb leaves as many as aa
        ForeignKnit equal = Checks.of("word aa any;word bb even;word cc even;casts 1;row cc;row aa;row bb;");
        doc.due("rows 1 and 2 are equal", equal.ask(), 1);
        // aa is (1, 1), bb leaves 0 to 2, and so does each row behind it
        ForeignKnit three = Checks.of("word aa even;word bb any;casts 1;row aa;row aa;row bb;");
        doc.due("the third one of three", three.ask(), 2);
    }

    private static void learn() {
        says("LEARN: the word not GUESSED of which the greatest number of those that FIT in which it has the same MEANING is "
            + "the least, likewise.");
        ForeignKnit loose = Checks.of(LOOSE);
        doc.due("27 of 243, the others 81", loose.learn(), 0);
        loose.guess(0, 1, 1);
        doc.due("not one guessed; of equal ones the first", loose.learn(), 1);
        loose.guess(1, 1, 1);
        doc.due("then the next one", loose.learn(), 2);
        loose.guess(3, 1, 0);
        doc.due("the one left", loose.learn(), 2);
        loose.guess(2, 0, 1);
        doc.due("all guessed", loose.learn(), -1);
        loose.forget(3);
        doc.due("the last one", loose.learn(), 3);
        doc.due("aa is the same in three of nine, bb in one", Checks.of(HAT).learn(), 1);
        doc.due("one fits: none is less than all", Checks.of(SCARF).learn(), -1);
        doc.due("none fits", Checks.of(SLIP).learn(), -1);
        doc.due("no words", new ForeignKnit().learn(), -1);
        doc.due("(0, 0) in all", Checks.of("word a any;word b any;rules which or takes + leaves = 0;").learn(), 1);
        ForeignKnit last = Checks.of(LAST);
        doc.due("one is the same in all, the other one is not", last.learn(), 1);
        last.guess(1, 1, 0);
        doc.due("then none", last.learn(), -1);
    }

    // all guessed

    private static void bad() {
        says("If all words are GUESSED: BAD: the first ROW that does not GO UP, or behind which there are not as many as its "
            + "count tells");
        ForeignKnit last = Checks.of(LAST);
        last.guess(0, 1, 1);
        doc.due("not all are", last.bad(), -1);
        last.guess(1, 1, 0);
        doc.due("each row goes up", last.bad(), -1);
        for (int row = 7; row >= 0; row--) {
            last.tell(row, 9);
            doc.due("behind row " + row + " there are not as many", last.bad(), row);
        }
        for (int row = 0; row < 8; row++) {
            ForeignKnit x = Checks.of(ONE + "casts 1;" + "row aa;".repeat(row) + "row aa 2;" + "row aa 2;".repeat(7 - row));
            x.guess(0, 1, 1);
            doc.due("row " + row + " does not go up", x.bad(), row);
        }
        ForeignKnit count = Checks.of(ONE + "casts 2;row aa 2;row aa 2;after 0 is 2;after 1 is 2;");
        count.guess(0, 1, 1);
        doc.due("there are as many", count.bad(), -1);
        count.tell(1, 1);
        doc.due("there are not", count.bad(), 1);
        count.tell(0, 0);
        doc.due("the first one", count.bad(), 0);
        doc.due("where there are no words all are guessed, no row is bad", new ForeignKnit().bad(), -1);
        says("BEHIND of a ROW: how many stitches there are by that.");
        doc.due("behind the first one", count.behind(0), 2);
        ForeignKnit down = Checks.of(ONE + "casts 5;row aa 3;row aa 7;");
        doc.due("not all are guessed", down.behind(0), -1);
        down.guess(0, 1, 1);
        doc.due("behind one that does not go up", down.behind(0), 3);
        doc.due("behind the next one that does not", down.behind(1), 7);
        ForeignKnit widest = Checks.of(WIDEST);
        widest.guess(0, 1, 2);
        doc.due("120", widest.behind(0), 120);
    }

    private static void off() {
        says("OFF: how many more the words of that ROW TAKE than there are (less than 0: fewer).");
        for (int there = 1; there <= 5; there++) {
            ForeignKnit x = Checks.of(ONE + "casts " + there + ";row aa 3;row aa 9;");
            x.guess(0, 1, 1);
            doc.due("three of " + there, x.off(), there == 3 ? 6 : 3 - there);
        }
        ForeignKnit none = Checks.of(ONE + "row (aa 20)3;");
        none.guess(0, 1, 1);
        doc.due("sixty of none", none.off(), 60);
        ForeignKnit most = Checks.of("word aa any;row (aa 20)3;");
        most.guess(0, 2, 2);
        doc.due("120 of none", most.off(), 120);
        ForeignKnit fewest = Checks.of("word aa any;casts 60;row (aa 20)3;row aa;");
        fewest.guess(0, 1, 2);
        doc.due("one of 120", fewest.off(), -119);
        fewest.tell(0, 1);
        doc.due("it goes up, but there are not as many", fewest.off(), 0);
        fewest.forget(0);
        doc.due("not all are guessed", fewest.off(), 0);
    }

    // words

    private static void twins() {
        says("TWINS: pairs of words that have one MEANING in each DICTIONARY that FITS.");
        doc.due("no words", new ForeignKnit().twins(), 0);
        doc.due("one word", Checks.of("word a any;").twins(), 0);
        doc.due("not in each", Checks.of("word a any;word b any;").twins(), 0);
        ForeignKnit x = Checks.of(FREE);
        doc.due("none of six", x.twins(), 0);
        x.guess(0, 1, 1);
        x.guess(3, 1, 1);
        doc.due("one", x.twins(), 1);
        x.guess(1, 0, 0);
        x.guess(2, 0, 0);
        doc.due("two", x.twins(), 2);
        x.guess(2, 1, 1);
        doc.due("three", x.twins(), 3);
        x.guess(1, 1, 1);
        doc.due("all six", x.twins(), 6);
        x.guess(1, 1, 2);
        x.guess(2, 2, 1);
        doc.due("takes alone and leaves alone are no meaning", x.twins(), 1);
        doc.due("none fits: all pairs", Checks.of(FREE + "rules 0;").twins(), 6);
        // in each, but not the same one in all: aa is (0, 0), (1, 1) or (2, 2), and bb likewise
        doc.due("one meaning in each, another one in the next",
            Checks.of("word aa even;word bb even;word cc even;casts 2;row cc 2;row aa;row bb;rules which < 2 or takes = 1;"
            + "after 0 is 2;").twins(), 1);
    }

    private static void idle() {
        says("IDLE: words in no ROW (bits).");
        doc.due("no rows", Checks.of(FREE).idle(), 15);
        doc.due("no words", new ForeignKnit().idle(), 0);
        doc.due("the first one is in one", Checks.of(FREE + "row a;").idle(), 14);
        doc.due("the last one is in one", Checks.of(FREE + "row d;").idle(), 7);
        doc.due("in the last row alone", Checks.of(FREE + "row d;".repeat(7) + "row (c 20)2 b 20;").idle(), 1);
        doc.due("each is in one", Checks.of(FREE + "row a b c d;").idle(), 0);
    }

    // mending

    private static void drops() {
        says("DROPS: the fewest counts that are to be DROPPED so that one FITS; of equal ones the least set of ROWS (bits).");
        String eight = ONE + "casts 1;" + "row aa;".repeat(8);
        ForeignKnit x = Checks.of(eight);
        doc.due("no counts, one fits", x.drops(), 0);
        x.tell(0, 1);
        doc.due("with a count one fits", x.drops(), 0);
        x.tell(7, 2);
        doc.due("the last row's", x.drops(), 128);
        x.tell(0, 2);
        doc.due("the first row's and the last one's", x.drops(), 129);
        for (int row = 1; row < 7; row++) {
            x.tell(row, 2);
        }
        doc.due("all eight", x.drops(), 255);
        doc.due("by none", Checks.of(SLIP).drops(), -1);
        ForeignKnit pair = Checks.of(PAIR);
        pair.tell(0, 0);
        pair.tell(1, 4);
        doc.due("either of two: the least set", pair.drops(), 1);
        ForeignKnit turned = Checks.of(PAIR);
        turned.tell(0, 4);
        turned.tell(1, 0);
        doc.due("either of two, the other way", turned.drops(), 1);
        // behind row 2 there are as many as behind row 1
        ForeignKnit one = Checks.of("word aa any;word bb any;word cc even;casts 2;row aa bb;row aa 2;row cc 2;");
        one.tell(0, 0);
        one.tell(1, 0);
        one.tell(2, 2);
        doc.due("one of a higher row, not two of lower ones", one.drops(), 4);
        one.guess(0, 1, 1);
        doc.due("guesses hold all the same", one.drops(), 3);
        doc.due("without a book", new ForeignKnit().drops(), 0);
    }

    private static void misprint(ForeignKnit x, int ways, int row, int place, int word) {
        doc.due("ways", x.misprints(), ways);
        doc.due("the row", x.misprint(0), row);
        doc.due("the place", x.misprint(1), place);
        doc.due("the word", x.misprint(2), word);
    }

    private static void misprints() {
        says("MISPRINTS: how many ways there are to put another word in place of one (at one place of one ROW; MEANINGS, "
            + "USES stay as they are) so that one FITS");
        misprint(Checks.of(SLIP), 2, 2, 0, 0);
        ForeignKnit count = Checks.of(SLIP);
        count.tell(2, 3);
        misprint(count, 0, -1, -1, -1);
        count.tell(2, 2);
        misprint(count, 2, 2, 0, 0);
        count.guess(0, 1, 1);
        misprint(count, 2, 2, 0, 0);
        misprint(Checks.of("word a any;casts 1;row a;"), 0, -1, -1, -1);
        String slip = "word kk even;word dd less;rules takes = 1 and leaves = 1 or takes = 2 and leaves = 1;row dd dd;";
        misprint(Checks.of(slip + "casts 3;"), 2, 0, 0, 0);
        misprint(Checks.of(slip + "casts 2;"), 0, -1, -1, -1);
        // each word is (1, 1) or (2, 2): one of each is asked for
        ForeignKnit guessed = Checks.of("word a even;word b even;rules takes;casts 3;row a a;");
        misprint(guessed, 2, 0, 0, 1);
        guessed.guess(0, 1, 1);
        misprint(guessed, 2, 0, 0, 1);
        guessed.guess(1, 1, 1);
        misprint(guessed, 0, -1, -1, -1);
        // a is (1, 1), b is (2, 1), c is (2, 2)
        String abc = "word a any;word b any;word c any;rules takes = 1 + (0 < which) and leaves = 1 + (which = 2);casts 4;";
        misprint(Checks.of(abc + "row a 3;row a 3;"), 3, 0, 0, 1);
        misprint(Checks.of(abc + "row a 3;row a 3;after 1 is 3;"), 3, 0, 0, 1);
        misprint(Checks.of(abc + "row a 3;row a 3;after 1 is 4;"), 0, -1, -1, -1);
        misprint(Checks.of(abc + "row a 3;row a 3;after 0 is 3;"), 3, 0, 0, 1);
        misprint(Checks.of(abc + "row a 3;row a 3;after 0 is 4;"), 0, -1, -1, -1);
        misprint(Checks.of(abc + "row a 3;row a 4;"), 3, 0, 0, 2);
        misprint(Checks.of(abc + "row a 3;"), 6, 0, 0, 1);
        misprint(Checks.of(abc + "row a 4;row a 3;row a 3;"), 3, 1, 0, 1);
        misprint(Checks.of(abc + "row a 4;row a 3;row a 4;"), 3, 1, 0, 2);
        misprint(Checks.of(abc + "row a 3;row a 3;row a 4;"), 0, -1, -1, -1);
        misprint(Checks.of(abc + "row a 3;row a 3;row a 4;row a 3;"), 0, -1, -1, -1);
        misprint(Checks.of(abc + "row a 3;row a 3;row a 4;row a 3;row a 4;row a 3;row a 4;row a 3;"), 0, -1, -1, -1);
        // one fits as it is: a word put in place of itself is no way
        String same = "word a even;word b even;word c even;rules takes = 1;casts 2;row a a;row a a;";
        misprint(Checks.of(same), 8, 0, 0, 1);
        // by its uses b has no meaning, and would have none in place of an a
        misprint(Checks.of("word a even;word b even;rules takes = 1 and uses;casts 2;row a a;"), 0, -1, -1, -1);
        // b is (1, 2) as it is used once: twice is what the book itself tells no more
        ForeignKnit uses = Checks.of("word a any;word b any;casts 3;row a 3;row a b a;rules takes = 1 and "
            + "((uses = 5 and leaves = 1) or (uses = 1 and leaves = 2));after 1 is 3;");
        misprint(uses, 1, 1, 1, 0);
        misprint(new ForeignKnit(), 0, -1, -1, -1);
        // what the row leaves is taken by the next one: bb is (1, 2)
        String next = "word aa any;word bb any;rules takes = 1 and leaves = which + 1;casts 2;row aa 2;row aa 3;";
        misprint(Checks.of(next), 2, 0, 0, 1);
        misprint(Checks.of(next + "row aa 4;"), 0, -1, -1, -1);
        misprint(Checks.of(next + "row aa 3;"), 2, 0, 0, 1);
    }

    private static void misprintOrder() {
        says("MISPRINT: the first of these, by ROWS, places, words: the ROW; the place; the word.");
        String three = "word a any;word b any;word c any;";
        // a and b are (1, 1), c is (2, 1)
        misprint(Checks.of(three + "rules takes = 1 + (which = 2) and leaves = 1;casts 3;row c a;row a a;"), 3, 0, 1, 1);
        // a is (0, 0), b and c are (1, 1)
        misprint(Checks.of(three + "rules takes = (0 < which) and leaves = (0 < which);casts 2;row b c;"), 2, 0, 0, 2);
        // all are (1, 1)
        misprint(Checks.of(three + "rules takes = 1 and leaves = 1;casts 2;row a a;"), 4, 0, 0, 1);
        misprint(Checks.of(three + "rules takes = 1 and leaves = 1;casts 2;row b a;"), 4, 0, 0, 0);
        // a is (1, 1), b is (0, 1): the last place of the last row
        misprint(Checks.of("word a any;word b any;rules takes = 1 - which and leaves = 1;casts 60;"
            + "row (a 20)3;".repeat(7) + "row a 20 a 20 a 19 b;"), 1, 7, 59, 0);
    }

    // rows

    private static ForeignKnit row(String items) {
        return Checks.of(FREE + "row " + items + ";");
    }

    private static void turned() {
        says("TURNED of a ROW: whether it is the same from the other end.");
        String[] same = {"a", "a a", "a b a", "a b b a", "a b c b a", "(a 20)3", "a 20 a 9 b b a 20 a 9"};
        for (String items : same) {
            doc.due(items, row(items).turned(0), true);
        }
        String[] other = {"a b", "a a b", "a b b", "a b a b", "a b c a", "a b b c a", "(a 20)2 a 19 b", "a 20 a 9 b c a 20 a 9"};
        for (String items : other) {
            doc.due(items, row(items).turned(0), false);
        }
        doc.due("the second row", Checks.of(FREE + "row a b;row b a b;").turned(1), true);
    }

    private static void alike(String one, String other, boolean due) {
        ForeignKnit x = Checks.of(FREE + "row d;row " + one + ";row " + other + ";");
        doc.due(one + " and " + other, x.alike(1, 2), due);
        doc.due(other + " and " + one, x.alike(2, 1), due);
    }

    private static void alike() {
        says("ALIKE of two ROWS: whether they are one if words are put in place of words, each of the one by one of the "
            + "other, no two by one.");
        alike("a", "a", true);
        alike("a", "b", true);
        alike("a b", "b a", true);
        alike("a b", "c d", true);
        alike("a b c d", "d c b a", true);
        alike("a b a", "b c b", true);
        alike("a b", "a a", false);
        alike("a b c", "a b a", false);
        alike("a b b", "a a b", false);
        alike("a", "a a", false);
        alike("a b", "a b a", false);
        alike("(a 20)3", "(b 20)3", true);
        alike("(a 20)2 a 19 b", "(b 20)2 b 19 a", true);
        alike("(a 20)2 a 19 b", "(b 20)3", false);
        alike("(a 20)2 a 19 b", "(b 20)2 b 18 a a", false);
    }

    private static void beat(String items, int due) {
        doc.due(items, row(items).line(0, 2), due);
    }

    private static void beat() {
        says("BEAT of a ROW: the least number of words so that it is these again and again, as often as it goes, without a "
            + "rest.");
        beat("a", 1);
        beat("(a 20)3", 1);
        beat("a b", 2);
        beat("(a b)2", 2);
        beat("(a b)2 a", 5);
        beat("a b a", 3);
        beat("(a b c)2", 3);
        beat("(a b c)2 a", 7);
        beat("(a a b)2", 3);
        beat("(a b)20 (a b)10", 2);
        beat("(a 20 a 9 b)2", 30);
        beat("(a 20)2 a 19 b", 60);
        beat("(a b)3 a a", 8);
        beat("a a b a", 4);
    }

    private static void brief(String items, int due) {
        doc.due(items, row(items).line(0, 3), due);
    }

    private static void brief() {
        says("BRIEF of a ROW: the fewest TOKENS by which its words can be told (a NAME is one, a NUMBER is one, ( and ) one "
            + "each; no more brackets within each other than a BOOK lets).");
        brief("a", 1);
        brief("a a", 2);
        brief("a 3", 2);
        brief("a b", 2);
        brief("a 20", 2);
        brief("a 20 a", 3);
        brief("a 20 a 20", 4);
        brief("(a 20)3", 5);
        brief("(a b)2", 4);
        brief("(a b)3", 5);
        brief("(a b c)2", 6);
        brief("(a b c d)2", 7);
        brief("(a b)20", 5);
        brief("(a b)20 a b", 7);
        // 25 times a b: (a b)20 (a b)5 is ten, ((a b)5)5 is eight
        brief("((a b)5)5", 8);
        brief("(a a b)3", 6);
        brief("((a b)3 c)2", 9);
        brief("(((a b)3 c)2 d)2", 13);
        brief("(((a b)3 c)2 d)2 c (a b)3", 19);
        // a b twice is as short without a bracket: there is none within three others
        brief("(((a b a b c)2 d)2 b)2", 16);
        brief("a b c d a b", 6);
        brief("a a b a a b a a", 8);
        says("LONG of a ROW: its words. AT of a ROW: its i-th word.");
        ForeignKnit x = row("(a 20)2 a 19 b");
        doc.due("sixty", x.line(0, 0), 60);
        doc.due("the first one", x.there(0, 0), 0);
        doc.due("the last but one", x.there(0, 58), 0);
        doc.due("the last one", x.there(0, 59), 1);
        doc.due("no more", x.there(0, 60), -1);
        doc.due("one", row("d").line(0, 0), 1);
        doc.due("the only one", row("d").there(0, 0), 3);
        doc.due("no second one", row("d").there(0, 1), -1);
    }

    private static void uses() {
        says("USES of a word: how often it is in all ROWS.");
        ForeignKnit x = Checks.of(FREE + "row (a 20)3;".repeat(8));
        doc.due("in each place", x.term(0, 3), 480);
        doc.due("in none", x.term(3, 3), 0);
        ForeignKnit y = Checks.of(FREE + "row a b 2(c d 2)3;row d;");
        int[] uses = {1, 2, 3, 7};
        for (int word = 0; word < 4; word++) {
            doc.due("word " + word, y.term(word, 3), uses[word]);
        }
    }

    // counts and chances

    private static void spare() {
        says("SPARE: counts, how many, each alone such that without it there are as many that FIT.");
        ForeignKnit x = Checks.of(ONE + "casts 1;" + "row aa;".repeat(8));
        doc.due("no counts", x.spare(), 0);
        for (int row = 0; row < 8; row++) {
            x.tell(row, 1);
            doc.due("rows up to " + row, x.spare(), row + 1);
        }
        x.tell(7, 2);
        doc.due("none fits, but for the last one", x.spare(), 7);
        x.tell(0, 2);
        doc.due("none fits without either", x.spare(), 8);
        ForeignKnit pair = Checks.of(PAIR);
        pair.tell(0, 4);
        doc.due("one that parts them", pair.spare(), 0);
        pair.tell(1, 4);
        doc.due("each alone: the first one alone would do", pair.spare(), 1);
        ForeignKnit needed = Checks.of(PAIR);
        needed.tell(0, 2);
        needed.tell(1, 4);
        doc.due("one more fits without the first one, two without the other one", needed.spare(), 0);
        ForeignKnit last = Checks.of(LAST);
        last.tell(0, 1);
        doc.due("one that each of three keeps", last.spare(), 1);
        ForeignKnit guessed = Checks.of(PAIR);
        guessed.tell(1, 2);
        doc.due("four more fit without it", guessed.spare(), 0);
        guessed.guess(0, 1, 1);
        doc.due("by a guess none more", guessed.spare(), 1);
        ForeignKnit same = Checks.of("word aa any;casts 1;row aa;row aa;after 0 is 1;after 1 is 1;");
        doc.due("either alone would do", same.spare(), 2);
    }

    private static void strict() {
        says("STRICT of a ROW: how many more would FIT if that ROW need not GO UP (all else as it is).");
        doc.due("of 27, nine fit", Checks.of(HAT).strict(0), 18);
        doc.due("all fit", Checks.of("word aa any;rules takes = 1;casts 1;row aa;").strict(0), 0);
        for (int row = 0; row < 8; row++) {
            String rows = "row aa;".repeat(row) + "row bb;" + "row aa;".repeat(7 - row);
            ForeignKnit x = Checks.of("word aa any;word bb any;rules leaves = 1 and takes = 1 + which;casts 1;" + rows);
            for (int other = 0; other < 8; other++) {
                doc.due("row " + row + " does not go up: but for row " + other, x.strict(other), row == other ? 1 : 0);
            }
            x.tell(row, 2);
            doc.due("its count holds", x.strict(row), 0);
            x.tell(row, 1);
            doc.due("as it is", x.strict(row), 1);
            x.guess(1, 2, 1);
            doc.due("a guess holds", x.strict(row), 1);
        }
        ForeignKnit hat = Checks.of(HAT);
        hat.guess(0, 0, 0);
        doc.due("guessed: of nine, three fit", hat.strict(0), 6);
        doc.due("two rows do not go up", Checks.of(ONE + "casts 1;row aa 2;row aa;").strict(0), 0);
        // ten of 81 ways to take two by four words, six of 27 by three
        ForeignKnit four = Checks.of(FREE + "casts 2;row a b c d;");
        doc.due("of 6561, 810 fit", four.strict(0), 5751);
        four.guess(3, 0, 0);
        doc.due("of 729, 162 fit", four.strict(0), 567);
    }

    private static void chance() {
        says("CHANCE: all that FIT alike: that behind a ROW there are so many (0 to 99) stitches, or more, in millionths, cut.");
        ForeignKnit hat = Checks.of(HAT);
        int[] chances = {1000000, 888888, 666666, 333333, 111111, 0};
        for (int i = 0; i < chances.length; i++) {
            doc.due(i + " or more", hat.chance(0, i), chances[i]);
        }
        doc.due("99 or more of 4", hat.chance(0, 99), 0);
        doc.due("99 or more of 99", Checks.of(WIDE).chance(0, 99), 1000000);
        doc.due("99 or more of 120", Checks.of(WIDEST).chance(0, 99), 1000000);
        doc.due("0 or more of 120", Checks.of(WIDEST).chance(0, 0), 1000000);
        doc.due("100", hat.chance(0, 100), -1);
        doc.due("-1", hat.chance(0, -1), -1);
        doc.due("none fits", Checks.of(SLIP).chance(0, 0), -1);
        ForeignKnit many = Checks.of(FREE + "row a;rules takes = 0 or which;");
        doc.due("of 2187 all", many.chance(0, 0), 1000000);
        doc.due("of 2187 two thirds", many.chance(0, 1), 666666);
        // a b leave 0 to 4 by 1, 2, 3, 2, 1 of nine
        ForeignKnit most = Checks.of(FREE + "row a b;rules takes = 0 or 1 < which;");
        doc.due("of 729 all", most.chance(0, 0), 1000000);
        doc.due("of 729 eight ninths", most.chance(0, 1), 888888);
    }

    // the needle

    private static void rests(int lose, int casts, int waits, int... due) {
        String call = "rests(" + lose + ", " + casts + ", " + waits + ", ";
        doc.due(call + "NONE)", new ForeignKnit().rests(lose, casts, waits, -1), due.length);
        for (int i = 0; i < due.length; i++) {
            doc.due(call + i + ")", new ForeignKnit().rests(lose, casts, waits, i), due[i]);
        }
    }

    private static void rests() {
        says("NEEDLE of two: each casts off or waits: both cast off: each loses so much (0 to 9); one does: he gets so much (0 "
            + "to 9), the other one so much (0 to 9); both wait: nothing: RESTS: by which neither would get more by the other.");
        // both wait rests where who casts off gets no more than nothing, both cast off where who waits does not
        rests(0, 0, 0, 0, 1, 2, 3);
        rests(0, 0, 9, 0, 1, 2);
        rests(9, 0, 0, 0, 1, 2);
        rests(0, 1, 0, 1, 2, 3);
        rests(0, 9, 0, 1, 2, 3);
        rests(1, 1, 0, 1, 2);
        rests(0, 1, 1, 1, 2);
        rests(0, 9, 9, 1, 2);
        rests(9, 9, 9, 1, 2);
        rests(2, 5, 1, 1, 2);
    }

    // draws

    private static void draws() {
        says("A DRAW below m: g becomes (g * 1103515245 + 12345) modulo 2147483648 (g is the SEED at first); it is g / 65536, "
            + "cut, modulo m.");
        // from 0 on g / 65536 is 0, 21468, 9988, 22117, 3498, from 1 on 16838, 5758, 10113, 17515, 31051,
        // from 9999 on 4241, 233, 22049, 17954, 28191; below 9 that is:
        draw(0, 0, 3, 7, 4, 6);
        draw(1, 8, 7, 6, 1, 1);
        draw(9999, 2, 8, 8, 8, 3);
    }

    /** What is drawn for a word of any kind: each meaning guessed, so that only a dictionary with it fits. */
    private static void draw(int seed, int... meanings) {
        ForeignKnit x = Checks.of("word aa any;");
        for (int meaning = 0; meaning < 9; meaning++) {
            x.guess(0, meaning / 3, meaning % 3);
            int times = 0;
            int first = -1;
            for (int i = 0; i < meanings.length; i++) {
                times += meanings[i] == meaning ? 1 : 0;
                first = first < 0 && meanings[i] == meaning ? i : first;
                doc.due("seed " + seed + ", meaning " + meaning + " in " + (i + 1), x.drafts(seed, i + 1, 0), times);
                doc.due("seed " + seed + ", the first " + meaning + " of " + (i + 1), x.drafts(seed, i + 1, 2), first);
            }
        }
    }

    private static void drafts() {
        says("DRAFTS by a SEED of so many (1 to 99) DICTIONARIES: of each word, by their numbers, a DRAW below as many "
            + "MEANINGS as it has, the one of that number (from 0, by TAKES, then LEAVES");
        doc.due("one", Checks.of("word a any;").drafts(0, 1, 0), 1);
        doc.due("99", Checks.of("word a any;").drafts(0, 99, 0), 99);
        doc.due("none", Checks.of("word a any;").drafts(0, 0, 0), -2);
        doc.due("100", Checks.of("word a any;").drafts(0, 100, 0), -2);
        // from 1 on below 3 it is 2, 1, 0, 1, 1, 2: a grows by (1, 2), b is less by (2, 0), a by (0, 1), b by (2, 0)
        ForeignKnit x = Checks.of("word a grows;word b less;");
        x.guess(0, 1, 2);
        doc.due("the first word's first draw", x.drafts(1, 1, 0), 1);
        x.guess(1, 2, 0);
        doc.due("the second word's first draw", x.drafts(1, 1, 0), 1);
        x.guess(0, 0, 1);
        doc.due("the first word's second draw", x.drafts(1, 2, 2), 1);
        // a word with one meaning draws, too: b gets 5758 and 17515, which are (1, 1) of three
        ForeignKnit two = Checks.of("word a even;word b even;rules takes = 1 or which;");
        two.guess(1, 1, 1);
        doc.due("of each word a draw", two.drafts(1, 2, 0), 2);
        says("how many of these FIT; how many ROWS GO UP by them, together; which one (from 0) is the first that FITS.");
        // a is (2, 2), (1, 1), (0, 0), (1, 1), (1, 1), (2, 2)
        ForeignKnit fit = Checks.of("word a even;casts 1;row a;row a 2;row a;");
        doc.due("none of one", fit.drafts(1, 1, 0), 0);
        doc.due("none is the first", fit.drafts(1, 1, 2), -1);
        doc.due("rows of (2, 2): none", fit.drafts(1, 1, 1), 0);
        doc.due("rows of (1, 1): the first one", fit.drafts(1, 2, 1), 1);
        doc.due("rows of (0, 0): the last two", fit.drafts(1, 3, 1), 3);
        ForeignKnit one = Checks.of("word a even;casts 1;row a;row a;");
        doc.due("the second one fits", one.drafts(1, 2, 0), 1);
        doc.due("it is the first", one.drafts(1, 6, 2), 1);
        doc.due("three of six fit", one.drafts(1, 6, 0), 3);
        doc.due("rows: two of each that fits, one of each other one", one.drafts(1, 6, 1), 9);
        one.tell(1, 0);
        doc.due("a count: none fits", one.drafts(1, 6, 0), 0);
        doc.due("none is the first of six", one.drafts(1, 6, 2), -1);
        doc.due("rows go up all the same", one.drafts(1, 6, 1), 9);
        ForeignKnit eight = Checks.of("word a any;rules takes = 0 and leaves = 0;" + "row a;".repeat(8));
        doc.due("eight rows of 99", eight.drafts(7, 99, 1), 792);
        doc.due("the first one of 99", eight.drafts(7, 99, 2), 0);
    }

    private static void draftsOfNothing() {
        says("if a word has none, nothing is drawn, no DICTIONARY is; where there are no words each is the one without any");
        for (int none = 0; none < 4; none++) {
            ForeignKnit x = Checks.of(FREE + "rules which - " + none + ";row a;");
            for (int what = 0; what < 3; what++) {
                doc.due("word " + none + " has none, what " + what, x.drafts(5, 9, what), what == 2 ? -1 : 0);
            }
        }
        ForeignKnit empty = new ForeignKnit();
        doc.due("without words each fits", empty.drafts(5, 9, 0), 9);
        doc.due("no row goes up", empty.drafts(5, 9, 1), 0);
        doc.due("the first one", empty.drafts(5, 9, 2), 0);
    }

    // marks

    private static void marks() {
        says("MARKS 0 to 3 hold all that UNDO brings back (nothing can be undone when one is gone back to).");
        ForeignKnit x = Checks.of(FREE + "row a b c d;row a;after 0 is 5;");
        for (int mark = 0; mark < 4; mark++) {
            x.guess(mark, 0, mark % 3);
            x.tell(1, mark);
            doc.due("mark " + mark, x.mark(mark, false), true);
            doc.due("what can be undone stays", x.count(7), 2 * mark + 2);
        }
        doc.due("mark 4", x.mark(4, false), false);
        doc.due("mark -1", x.mark(-1, false), false);
        x.drop(0);
        for (int mark = 3; mark >= 0; mark--) {
            doc.due("back to " + mark, x.mark(mark, true), true);
            doc.due("the words guessed then", x.count(3), (2 << mark) - 1);
            doc.due("a guess of then", x.term(mark, 1), mark % 3);
            doc.due("the count of then", x.line(1, 1), mark);
            doc.due("the count of the book", x.line(0, 1), 5);
            doc.due("nothing can be undone", x.undo(), false);
            x.tell(1, 77);
            doc.due("then it can", x.count(7), 1);
        }
        doc.due("a mark stays", x.mark(3, true), true);
        doc.due("as it was laid", x.line(1, 1), 3);
        x.tell(1, 8);
        x.mark(0, false);
        doc.due("what lies on another one stays", x.mark(3, true) && x.line(1, 1) == 3, true);
        doc.due("one laid once more", x.mark(0, true) && x.line(1, 1) == 8, true);
        ForeignKnit asked = Checks.of(HAT);
        asked.guess(0, 1, 1);
        asked.mark(1, false);
        String ahead = Edges.answers(asked);
        asked.tell(0, 4);
        asked.guess(0, 0, 0);
        doc.due("other answers by other guesses", Edges.answers(asked).equals(ahead), false);
        asked.mark(1, true);
        doc.due("all answers as they were", Edges.answers(asked).equals(ahead), true);
    }
}
