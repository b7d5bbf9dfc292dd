import java.util.NoSuchElementException;

/** Each promise of the document by answers that were worked out by hand. */
public final class PromiseTest {
    // pp must be (1, 1), qq (2, 1): without its count qq may be (2, 0) too
    private static final String SCARF =
        "word pp any ; word qq less ; casts 4 ; row pp 4 ; row pp qq pp ; after 1 is 3 ;";
    // every one of the 243 dictionaries fits
    private static final String LOOSE = "word aa any ; word bb even ; word cc grows ; word dd less ;";
    // takes: 0 2, 1 1, 2 0; nine fit, with 0, 1, 2 / 1, 2, 3 / 2, 3, 4 stitches behind the row
    private static final String HAT = "word aa even ; word bb any ; casts 2 ; row aa bb ;";
    // five fit; behind the rows there are 0 0, 2 0, 2 2, 2 4, 4 4
    private static final String PAIR = "word aa any ; word bb any ; casts 2 ; row aa bb ; row aa 2 ;";
    // kk is (1, 1), dd is (2, 1): the last row takes four of three
    private static final String SLIP = "word kk even ; word dd less ;"
        + " rules takes = 1 and leaves = 1 or takes = 2 and leaves = 1 ;"
        + " casts 4 ; row kk dd kk ; row kk 3 ; row dd dd ;";
    private static final String DRESS = "word aa any ; word bb even ; casts 3 ; row aa bb ; row bb 2 ; after 1 is 2 ;";
    private static final int[] WRONG = {-1, -2, 8, 60, Integer.MIN_VALUE, Integer.MAX_VALUE};

    private static final Checks checks = new Checks("PromiseTest");

    private PromiseTest() {
    }

    private static void due(String call, long got, long want) {
        checks.due(call, got, want);
    }

    private static void due(String call, boolean got, boolean want) {
        checks.due(call, got, want);
    }

    public static void main(String[] args) {
        newObject();
        feeding();
        bookFaults();
        bookItemFaults();
        rulesFaults();
        bookState();
        bookBehindBook();
        rulesMeaning();
        notesFaults();
        terms();
        lines();
        theres();
        guessing();
        telling();
        undoing();
        judging();
        fitting();
        meanings();
        stitches();
        asking();
        allGuessed();
        twinsAndIdle();
        dropping();
        misprinting();
        shapes();
        sparing();
        chances();
        needle();
        drafting();
        marking();
        counting();
        checks.end();
    }

    private static void newObject() {
        ForeignKnit x = new ForeignKnit();
        for (int what = 0; what <= 8; what++) {
            due("new: count(" + what + ")", x.count(what), what == 5 ? 1 : 0);
        }
        due("new: fits", x.fits(), 1);
        due("new: undo", x.undo(), false);
        due("new: judged", x.judged(2), 1);
        due("new: term", x.term(0, 0), -2);
        due("new: line", x.line(0, 0), -2);
        due("new: mark", x.mark(0, true), false);
        due("NONE", ForeignKnit.NONE, -1);
    }

    private static void feeding() {
        ForeignKnit x = new ForeignKnit();
        due("feed: highest first", x.feed('w' << 8 | 'o', 'r', (long) 'd' << 56), 4);
        due("feed: left out", x.feed(0x090B0D1F7F80FFL, 0, 0), 4);
        due("feed: kept", x.feed(0x0A207EL, 0, 0), 7);
        due("feed: count", x.count(8), 7);
        ForeignKnit y = new ForeignKnit();
        y.feed('w' << 8 | 'o', 'r', (long) 'd' << 56);
        Checks.feed(y, " aa any;");
        due("feed: in their order", y.book(), 0);
        due("feed: a word", y.count(0), 1);
        ForeignKnit z = new ForeignKnit();
        StringBuilder blanks = new StringBuilder();
        for (int i = 0; i < 990; i++) {
            blanks.append(i % 2 == 0 ? ' ' : '\n');
        }
        due("feed: much", Checks.feed(z, blanks.toString()), 990);
        due("feed: full", Checks.feed(z, "word aa any;"), 1000);
        due("feed: more than full", Checks.feed(z, "casts 3 ;"), 1000);
        due("book: cut at 1,000", z.book(), 1 + 16 * 998);
        due("book: the tape is taken with a fault", z.count(8), 0);
    }

    private static void fault(String text, int kind, int place) {
        ForeignKnit x = Checks.of(SCARF);
        x.guess(0, 1, 1);
        x.mark(2, false);
        Checks.notes(x, "drop 1 ;");
        due("book of " + text, Checks.book(x, text), kind + 16 * place);
        due("all stays behind " + text,
            x.count(0) * 10000 + x.count(1) * 1000 + x.count(3) * 100 + x.count(6) * 10 + x.count(7), 22111);
        due("the mark stays behind " + text, x.mark(2, true), true);
        due("the tape is empty behind " + text, x.count(8), 0);
    }

    private static void bookFaults() {
        fault("!", 1, 0);
        fault("  A", 1, 2);
        fault("purl", 1, 0);
        fault("guess", 1, 0);
        fault(";", 1, 0);
        fault("word", 1, 4);
        fault("word  ", 1, 6);
        fault("word aa", 1, 7);
        fault("word aa any", 1, 11);
        fault("word aa any aa", 1, 12);
        fault("word 7", 1, 5);
        fault("word abcdefghi any;", 1, 5);
        for (String reserved : ("word casts row after is rules guess forget tell drop any even grows less not and or")
                .split(" ")) {
            fault("word " + reserved, 1, 5);
        }
        fault("word aa none ;", 1, 8);
        fault("word aa any ; word aa", 3, 19);
        fault("word aa any;word bb any;word cc any;word dd any; word ee", 5, 49);
        fault("casts", 1, 5);
        fault("casts 0", 4, 6);
        fault("casts 61", 4, 6);
        fault("casts 00060", 1, 6);
        fault("casts x", 1, 6);
        fault("casts 5 casts", 1, 8);
        fault("casts 5 ; casts", 3, 10);
        fault("after", 1, 5);
        fault("after 0", 4, 6);
        fault("after x", 1, 6);
        String row = "word aa any;row aa;";
        fault(row + "after 1", 4, 25);
        fault(row + "after 0 as", 1, 27);
        fault(row + "after 0 is", 1, 29);
        fault(row + "after 0 is aa", 1, 30);
        fault(row + "after 0 is 100", 4, 30);
        fault(row + "after 0 is 99 row", 1, 33);
        fault(row + "after 0 is 99 ; after 0", 3, 41);
    }

    private static void bookItemFaults() {
        String word = "word aa any;";
        fault(word + "row", 1, 15);
        fault(word + "row;", 1, 15);
        fault(word + "row bb", 2, 16);
        fault(word + "row row", 1, 16);
        fault(word + "row aa any", 1, 19);
        fault(word + "row aa 0", 4, 19);
        fault(word + "row aa 21", 4, 19);
        fault(word + "row aa 20 20", 1, 22);
        fault(word + "row 2 aa", 1, 16);
        fault(word + "row ()", 1, 17);
        fault(word + "row (aa;", 1, 19);
        fault(word + "row aa)", 1, 18);
        fault(word + "row (aa)", 1, 20);
        fault(word + "row (aa) aa", 1, 21);
        fault(word + "row (aa) 21", 4, 21);
        fault(word + "row (aa) 0", 4, 21);
        fault(word + "row (aa) 2 2", 1, 23);
        fault(word + "row (((aa) 1) 1) 1 (((( ", 5, 34);
        fault(word + "row aa 20 aa 20 aa 20 aa;", 5, 36);
        fault(word + "row (((aa 20) 20) 20) 20;", 5, 36);
        fault(word + "row (aa 20 aa) 3 ;", 5, 29);
        fault(word + "row aa 20 aa 20 aa 20 aa", 1, 36);
        fault(word + "row aa;row aa;row aa;row aa;row aa;row aa;row aa;row aa; row", 5, 69);
        ForeignKnit x = Checks.of(word + "row ((aa 3) 5 aa (aa aa) 2) 3;");
        due("row of 60", x.line(0, 0), 60);
        due("row of 60 by one bracket", Checks.of(word + "row (aa 20) 3;").line(0, 0), 60);
    }

    private static void rulesFaults() {
        fault("rules", 1, 5);
        fault("rules ;", 1, 6);
        fault("rules row", 1, 6);
        fault("rules 1", 1, 7);
        fault("rules 1 ; rules", 3, 10);
        fault("rules 12345 ;", 1, 6);
        fault("rules takes leaves", 1, 12);
        fault("rules takes +", 1, 13);
        fault("rules takes * ;", 1, 14);
        fault("rules 1 < 2 < 3", 1, 12);
        fault("rules 1 = 2 = 3", 1, 12);
        fault("rules 1 < 2 = 3", 1, 12);
        fault("rules - 1", 1, 6);
        fault("rules (1", 1, 8);
        fault("rules 1)", 1, 7);
        fault("rules not", 1, 9);
        fault("rules 1 and ;", 1, 12);
        fault("rules not not not not not 1", 5, 26);
        fault("rules not not not not not not", 5, 26);
        fault("rules (((((1", 5, 11);
        fault("rules ((((((", 5, 11);
        fault("rules (((((;", 1, 11);
        fault("rules not(not(not takes", 5, 18);
        due("rules as deep as may be", Checks.book(new ForeignKnit(), "rules not not (( 1 < ( 2 )) or 0 ) ;"),
            5 + 16 * 23);
        due("rules four deep", Checks.book(new ForeignKnit(), "rules not not ((1 < 2) or 0) ;"), 0);
    }

    private static void bookState() {
        ForeignKnit x = Checks.of(SCARF);
        x.guess(0, 1, 1);
        x.tell(0, 4);
        x.mark(0, false);
        Checks.notes(x, "drop 1 ;");
        due("book: a second one", Checks.book(x, HAT), 0);
        due("book: words", x.count(0), 2);
        due("book: rows", x.count(1), 1);
        due("book: nothing guessed", x.count(3), 0);
        due("book: counts as told", x.count(4), 0);
        due("book: no notes", x.count(6), 0);
        due("book: nothing to undo", x.count(7), 0);
        due("book: no mark", x.mark(0, true), false);
        due("book: an empty one", Checks.book(x, " \n "), 0);
        due("book: no words", x.count(0), 0);
        due("book: casts nothing", x.count(2), 0);
        ForeignKnit y = Checks.of("casts60;word uses any;word takes any;row uses2takes(uses)2;after0is99;");
        due("book: a letter right behind a number", y.line(0, 0), 5);
        due("book: names of facts", y.there(0, 2), 1);
        ForeignKnit z = Checks.of("word a any;word aa any;word zzzzzzzz any;word azzzzzzz any;row aa azzzzzzz a zzzzzzzz;");
        int[] order = {1, 3, 0, 2};
        for (int i = 0; i < order.length; i++) {
            due("book: no two names are one", z.there(0, i), order[i]);
        }
    }

    /** Nothing of the books ahead is left in the answers, whether they had faults or not. */
    private static void bookBehindBook() {
        ForeignKnit x = Checks.of("rules 0; word a any; casts 9; row a 3 ; after 0 is 7;");
        due("ahead: fits", x.fits(), 0);
        due("ahead: brief", x.line(0, 3), 2);
        due("ahead: misprints", x.misprints(), 0);
        due("ahead: judged", x.judged(2), 0);
        due("ahead: a fault", Checks.book(x, "rules 0; word a any; word b any; casts 5; row a b a b 2 ; after 0 is 3; rules"),
            3 + 16 * 72);
        due("ahead: uses stay", x.term(0, 3), 3);
        due("next: slip", Checks.book(x, SLIP), 0);
        due("next: fits", x.fits(), 0);
        due("next: misprints", x.misprints(), 2);
        due("next: no count", x.count(4), 0);
        due("next: brief", x.line(0, 3), 3);
        due("next: uses", x.term(0, 3) * 10 + x.term(1, 3), 53);
        due("then: a fault", Checks.book(x, "word a any; word b any; casts 5; row a 3 b ; row b 4 ; after 1 is 3; rules 0; row ;"),
            1 + 16 * 82);
        due("then: pair", Checks.book(x, PAIR), 0);
        due("then: fits", x.fits(), 5);
        due("then: judged", x.judged(2), 5);
        due("then: uses", x.term(0, 3) * 10 + x.term(1, 3), 31);
        due("then: brief", x.line(0, 3) * 10 + x.line(1, 3), 22);
        due("then: chance", x.chance(0, 2), 800000);
        x.guess(0, 1, 1);
        due("then: guessed", x.fits(), 1);
        due("then: misprints", x.misprints(), 4);
        due("last: hat", Checks.book(x, HAT), 0);
        due("last: fits", x.fits(), 9);
        due("last: misprints", x.misprints(), 2);
        due("last: entry", x.entry(8, 1), 2);
    }

    private static void rule(String rules, int first, int second) {
        ForeignKnit x = Checks.of("word aa any;word bb any;rules " + rules + ";row aa 3;row aa;");
        due("meanings of aa by " + rules, x.could(0) < 0 ? -1 : bitsOf(x, 0), first);
        due("meanings of bb by " + rules, bitsOf(x, 1), second);
    }

    private static int bitsOf(ForeignKnit x, int word) {
        int bits = Checks.meanings(x, word);
        due("term of that many", x.term(word, 2), Integer.bitCount(bits));
        return bits;
    }

    private static void rulesMeaning() {
        rule("1", 511, 511);
        rule("0", 0, 0);
        rule("9999", 511, 511);
        rule("takes", 504, 504);
        rule("leaves = 2", 292, 292);
        rule("leaves < takes", 200, 200);
        rule("takes - leaves = 0 - 1", 34, 34);
        rule("uses = 4", 511, 0);
        rule("uses", 511, 0);
        rule("which", 0, 511);
        rule("not which", 511, 0);
        rule("not takes = 1", 7, 7);
        rule("not (takes = 1)", 455, 455);
        rule("1 or 0 and 0", 0, 0);
        rule("0 and 0 or 1", 511, 511);
        rule("2 and 4 = 1", 0, 0);
        rule("(2 and 4) = 1", 511, 511);
        rule("takes + leaves * 2 = 4", 1 << 2 | 1 << 7, 1 << 2 | 1 << 7);
        rule("(takes + leaves) * 2 = 4", 1 << 2 | 1 << 4 | 1 << 6, 1 << 2 | 1 << 4 | 1 << 6);
        rule("3 - 2 - 1", 0, 0);
        rule("5000 * 5000 * 5000 < 0", 511 * (5000 * 5000 * 5000 < 0 ? 1 : 0), 511 * (5000 * 5000 * 5000 < 0 ? 1 : 0));
        rule("8192 * 8192 * 64", 0, 0);
        rule("8192 * 8192 * 32 < 0", 511, 511);
    }

    private static void notesFault(String text, int kind, int place) {
        ForeignKnit x = Checks.of(SCARF);
        Checks.notes(x, "drop 1 ; drop 1 ;");
        due("notes of " + text, Checks.notes(x, text), kind + 16 * place);
        due("the notes stay behind " + text, x.count(6), 2);
        due("they are judged behind " + text, x.judged(0), 1);
        due("the tape is empty behind " + text, x.count(8), 0);
    }

    private static void notesFaults() {
        notesFault("word", 1, 0);
        notesFault("guess", 1, 5);
        notesFault("guess 1", 1, 6);
        notesFault("guess row", 1, 6);
        notesFault("guess zz", 2, 6);
        notesFault("guess pp;", 1, 8);
        notesFault("guess pp 3", 4, 9);
        notesFault("guess pp 2;", 1, 10);
        notesFault("guess pp 2 3", 4, 11);
        notesFault("guess pp 2 2", 1, 12);
        notesFault("forget 0", 1, 7);
        notesFault("forget zz", 2, 7);
        notesFault("forget pp pp", 1, 10);
        notesFault("tell pp", 1, 5);
        notesFault("tell 2", 4, 5);
        notesFault("tell 1 100", 4, 7);
        notesFault("tell 1;", 1, 6);
        notesFault("drop 2", 4, 5);
        notesFault("drop 1", 1, 6);
        notesFault("drop 1 1", 1, 7);
        StringBuilder many = new StringBuilder();
        for (int i = 0; i < 40; i++) {
            many.append("drop 1 ;");
        }
        notesFault(many + "tell", 5, 320);
        notesFault(many + "word", 1, 320);
        ForeignKnit x = Checks.of(SCARF);
        due("notes: forty lines", Checks.notes(x, many.toString()), 0);
        due("notes: lines", x.count(6), 40);
        due("notes: fewer", Checks.notes(x, "guess qq 0 2;forget pp;tell 1 99;"), 0);
        due("notes: lines", x.count(6), 3);
        due("notes: none", Checks.notes(x, ""), 0);
        due("notes: no lines", x.count(6), 0);
        due("notes: nothing is done", x.count(7) + x.count(3), 0);
    }

    private static void terms() {
        ForeignKnit x = Checks.of("word aa any;word bb even;word cc grows;word dd less;row bb 3 dd;row bb;");
        int[] sizes = {9, 3, 3, 3};
        int[] uses = {0, 4, 0, 1};
        for (int word = 0; word < 4; word++) {
            due("term: kind", x.term(word, 0), word);
            due("term: not guessed", x.term(word, 1), -1);
            due("term: meanings", x.term(word, 2), sizes[word]);
            due("term: uses", x.term(word, 3), uses[word]);
        }
        x.guess(3, 2, 1);
        due("term: guessed", x.term(3, 1), 7);
        due("term: what 4", x.term(0, 4), -2);
        due("term: what -1", x.term(0, -1), -2);
        due("term: word 4", x.term(4, 0), -2);
        for (int wrong : WRONG) {
            due("term: word " + wrong, x.term(wrong, 0), -2);
            due("term: what " + wrong, x.term(0, wrong), -2);
        }
        due("term: a word that is none", Checks.of(HAT).term(2, 0), -2);
    }

    private static void row(String items, int words, int beat, int brief) {
        ForeignKnit x = Checks.of("word a any;word b any;word c any;word d any;row d;row " + items + ";");
        due("long of " + items, x.line(1, 0), words);
        due("beat of " + items, x.line(1, 2), beat);
        due("brief of " + items, x.line(1, 3), brief);
        due("brief of " + items + " once more", x.line(1, 3), brief);
    }

    private static void lines() {
        row("a", 1, 1, 1);
        row("a a", 2, 1, 2);
        row("a b", 2, 2, 2);
        row("a 20", 20, 1, 2);
        row("a 20 a", 21, 1, 3);
        row("(a 20) 2", 40, 1, 4);
        row("(a 20) 3", 60, 1, 5);
        row("(a b) 2", 4, 2, 4);
        row("(a b) 3", 6, 2, 5);
        row("(a b) 20", 40, 2, 5);
        row("(a b) 20 a b", 42, 2, 7);
        row("(a b) 20 (a b) 10", 60, 2, 7);
        row("a b a", 3, 3, 3);
        row("a b c a b c", 6, 3, 6);
        row("a b c a b c a", 7, 7, 7);
        row("a b c d a b c d", 8, 4, 7);
        row("(a 2 b) 2", 6, 3, 6);
        row("((a b) 3 c) 2", 14, 7, 9);
        row("(((a b) 3 c) 2 d) 2", 30, 15, 13);
        row("(((a b) 3 c) 2 d) 2 c (a b) 3", 37, 37, 19);
        row("a a b a a b a a", 8, 8, 8);
        ForeignKnit x = Checks.of(SCARF);
        due("line: a count", x.line(1, 1), 3);
        due("line: no count", x.line(0, 1), -1);
        x.tell(0, 7);
        due("line: a count told", x.line(0, 1), 7);
        due("line: what 4", x.line(0, 4), -2);
        for (int wrong : WRONG) {
            due("line: row " + wrong, x.line(wrong, 0), -2);
            due("line: what " + wrong, x.line(0, wrong), -2);
        }
        due("line: no such row", x.line(2, 0), -2);
    }

    private static void theres() {
        ForeignKnit x = Checks.of("word a any;word b any;word c any;row a (b 2 (c a) 2) 2 c;row b;");
        int[] words = {0, 1, 1, 2, 0, 2, 0, 1, 1, 2, 0, 2, 0, 2};
        for (int i = 0; i < words.length; i++) {
            due("there: " + i, x.there(0, i), words[i]);
        }
        due("there: the end", x.there(0, words.length), -1);
        due("there: row 1", x.there(1, 0), 1);
        due("there: row 1's end", x.there(1, 1), -1);
        due("there: no such row", x.there(2, 0), -1);
        for (int wrong : WRONG) {
            due("there: row " + wrong, x.there(wrong, 0), -1);
            due("there: place " + wrong, x.there(1, wrong), -1);
        }
    }

    private static void guessing() {
        ForeignKnit x = Checks.of(SCARF);
        due("guess: first", x.guess(0, 1, 2), -1);
        due("guess: in place of it", x.guess(0, 2, 2), 5);
        due("guess: the same", x.guess(0, 2, 2), 8);
        due("guess: steps", x.count(7), 3);
        due("guess: no meaning of it", x.guess(1, 1, 1), -2);
        due("guess: takes 3", x.guess(0, 3, 0), -2);
        due("guess: leaves 3", x.guess(0, 0, 3), -2);
        due("guess: takes -1", x.guess(0, -1, 3), -2);
        due("guess: leaves -1", x.guess(0, 1, -1), -2);
        due("guess: no such word", x.guess(2, 1, 1), -2);
        due("guess: steps stay", x.count(7), 3);
        due("guess: nothing fits by it", x.fits(), 0);
        for (int wrong : WRONG) {
            due("guess: word " + wrong, x.guess(wrong, 1, 0), -2);
            due("guess: takes " + wrong, x.guess(0, wrong, 0), -2);
            due("guess: leaves " + wrong, x.guess(0, 0, wrong), -2);
            due("forget: " + wrong, x.forget(wrong), -1);
        }
        due("forget: not guessed", x.forget(1), -1);
        due("forget: no such word", x.forget(2), -1);
        due("forget", x.forget(0), 8);
        due("forget: twice", x.forget(0), -1);
        due("forget: steps", x.count(7), 4);
        due("forget: it fits again", x.fits(), 1);
        due("guess: (0, 0) is one", x.guess(0, 0, 0), -1);
        due("forget: (0, 0)", x.forget(0), 0);
    }

    private static void telling() {
        ForeignKnit x = Checks.of(SCARF);
        due("tell: in place of one", x.tell(1, 2), 3);
        due("tell: one fits", x.fits(), 1);
        due("tell: by another meaning", x.sure(1), 6);
        due("tell: a new one", x.tell(0, 0), -1);
        due("tell: in place of 0", x.tell(0, 99), 0);
        due("tell: 100", x.tell(0, 100), -2);
        due("tell: -1", x.tell(0, -1), -2);
        due("tell: no such row", x.tell(2, 1), -2);
        due("tell: steps", x.count(7), 3);
        for (int wrong : WRONG) {
            due("tell: row " + wrong, x.tell(wrong, 1), -2);
            due("drop: " + wrong, x.drop(wrong), -1);
        }
        due("drop", x.drop(0), 99);
        due("drop: twice", x.drop(0), -1);
        due("drop: no such row", x.drop(2), -1);
        due("drop: steps", x.count(7), 4);
        due("drop: told in the book", x.drop(1), 2);
        due("drop: two fit", x.fits(), 2);
    }

    private static void undoing() {
        ForeignKnit x = Checks.of(SCARF);
        due("undo: nothing", x.undo(), false);
        x.guess(0, 1, 1);
        x.guess(0, 1, 2);
        x.forget(0);
        x.tell(1, 5);
        x.drop(1);
        due("undo: fits ahead", x.fits(), 2);
        due("undo: drop", x.undo(), true);
        due("undo: the count is there", x.line(1, 1), 5);
        due("undo: none fits by it", x.fits(), 0);
        x.undo();
        due("undo: tell", x.line(1, 1), 3);
        x.undo();
        due("undo: forget", x.term(0, 1), 5);
        x.undo();
        due("undo: guess", x.term(0, 1), 4);
        due("undo: one left", x.count(7), 1);
        x.undo();
        due("undo: first guess", x.term(0, 1), -1);
        due("undo: no more", x.undo(), false);
        for (int i = 0; i < 20; i++) {
            x.tell(0, i);
        }
        due("undo: 16 at most", x.count(7), 16);
        for (int i = 0; i < 16; i++) {
            due("undo: one by one", x.undo(), true);
            due("undo: the count ahead", x.line(0, 1), 18 - i);
        }
        due("undo: the 17th", x.undo(), false);
        due("undo: what is left", x.line(0, 1), 3);
        ForeignKnit y = Checks.of(SCARF);
        y.tell(1, 50);
        for (int i = 0; i < 9; i++) {
            y.guess(0, i / 3, i % 3);
            y.tell(0, i);
        }
        for (int i = 8; i > 0; i--) {
            y.undo();
            due("undo: each where it was", y.line(0, 1) * 100 + y.term(0, 1), 100 * (i - 1) + i);
            y.undo();
            due("undo: each as it was", y.line(0, 1) * 100 + y.term(0, 1), 101 * (i - 1));
        }
        due("undo: three are lost", y.undo(), false);
        due("undo: lost", y.line(1, 1), 50);
    }

    private static void judged(ForeignKnit x, String text, int impossible, int stuck, int left) {
        due("notes " + text, Checks.notes(x, text), 0);
        due("judged(0) of " + text, x.judged(0), impossible);
        due("judged(1) of " + text, x.judged(1), stuck);
        due("judged(2) of " + text, x.judged(2), left);
    }

    private static void judging() {
        ForeignKnit x = Checks.of(SCARF);
        due("judged: no notes", x.judged(0) + 10 * x.judged(1) + 100 * x.judged(2), 89);
        Checks.notes(x, "tell 1 9;");
        due("judged: notes behind an answer", x.judged(2), 0);
        x.guess(0, 2, 2);
        x.drop(1);
        judged(x, "", -1, -1, 1);
        judged(x, "drop 1;guess qq 2 0;guess qq 1 0;forget qq;forget qq;tell 1 2;drop 0;", 4, 2, 1);
        judged(x, "drop 1;", -1, -1, 2);
        judged(x, "tell 1 2;guess qq 2 1;", -1, 1, 0);
        judged(x, "guess qq 2 2;", 0, -1, 1);
        judged(x, "tell 0 4;drop 0;drop 0;guess pp 0 0;", 2, 3, 0);
        judged(x, "forget pp;", 0, -1, 1);
        judged(x, "tell 0 5;forget qq;tell 0 4;", 1, 0, 1);
        due("judged: what 3", x.judged(3), -2);
        for (int wrong : WRONG) {
            due("judged: what " + wrong, x.judged(wrong), -2);
        }
        due("judged: nothing is done by it", x.count(7), 2);
        Checks.book(x, HAT);
        due("judged: no notes of the next book", x.judged(0) + 10 * x.judged(1) + 100 * x.judged(2), 889);
        ForeignKnit none = Checks.of("word aa any;rules 0;");
        judged(none, "forget aa;", 0, 0, 0);
    }

    private static void fitting() {
        due("fits: scarf", Checks.of(SCARF).fits(), 1);
        due("fits: loose", Checks.of(LOOSE).fits(), 243);
        due("fits: hat", Checks.of(HAT).fits(), 9);
        due("fits: pair", Checks.of(PAIR).fits(), 5);
        due("fits: slip", Checks.of(SLIP).fits(), 0);
        due("fits: all of four words", Checks.of("word a any;word b any;word c any;word d any;").fits(), 6561);
        due("fits: a word without a meaning", Checks.of("word a any;word b grows;rules takes = 2;").fits(), 0);
        due("fits: none cast", Checks.of("word a any;row a 4;").fits(), 3);
        ForeignKnit x = Checks.of(LOOSE);
        int[][] rows = {{0, 0, 0, 1, 3}, {1, 0, 0, 1, 6}, {124, 4, 4, 5, 6}, {242, 8, 8, 5, 7}};
        for (int[] row : rows) {
            for (int word = 0; word < 4; word++) {
                due("entry " + row[0] + " of " + word, x.entry(row[0], word), row[word + 1]);
            }
        }
        due("entry: none of that number", x.entry(243, 0), -1);
        due("entry: no such word", x.entry(0, 4), -1);
        for (int wrong : WRONG) {
            due("entry: word " + wrong, x.entry(0, wrong), -1);
            due("entry: number " + wrong, Checks.of(SCARF).entry(wrong, 0), -1);
        }
        ForeignKnit pair = Checks.of(PAIR);
        int[] first = {0, 3, 4, 5, 8};
        int[] second = {6, 5, 4, 3, 2};
        for (int i = 0; i < 5; i++) {
            due("entry of those that fit", pair.entry(i, 0), first[i]);
            due("entry of those that fit", pair.entry(i, 1), second[i]);
        }
        due("entry: no sixth", pair.entry(5, 0), -1);
        pair.tell(1, 4);
        due("entry: fewer fit", pair.entry(1, 1), 2);
        due("entry: no third", pair.entry(2, 1), -1);
    }

    private static void meanings() {
        ForeignKnit x = Checks.of(LOOSE);
        due("could: any", x.could(0), 511);
        due("could: even", x.could(1), 273);
        due("could: grows", x.could(2), 38);
        due("could: less", x.could(3), 200);
        due("could: no such word", x.could(4), -1);
        due("with", x.with(1, 1, 1), 81);
        due("with: any", x.with(0, 0, 0), 27);
        due("with: no meaning of it", x.with(1, 0, 1), 0);
        due("with: takes 3", x.with(0, 3, 0), -1);
        due("with: leaves 3", x.with(0, 0, 3), -1);
        due("with: takes 1 leaves -1", x.with(0, 1, -1), -1);
        due("with: no such word", x.with(4, 0, 0), -1);
        due("sure: nothing", x.sure(0), -1);
        due("fixed: nothing", x.fixed(), 0);
        x.guess(2, 0, 2);
        x.guess(0, 0, 0);
        due("sure: guessed", x.sure(2), 2);
        due("sure: (0, 0)", x.sure(0), 0);
        due("fixed: guessed", x.fixed(), 5);
        due("with: guessed", x.with(0, 0, 0), 9);
        ForeignKnit scarf = Checks.of(SCARF);
        due("sure", scarf.sure(1), 7);
        due("fixed", scarf.fixed(), 3);
        scarf.drop(1);
        due("could: two", scarf.could(1), 192);
        due("sure: two", scarf.sure(1), -1);
        due("fixed: the other one", scarf.fixed(), 1);
        scarf.tell(1, 9);
        due("could: none fits", scarf.could(0), 0);
        due("sure: none fits", scarf.sure(0), -1);
        due("fixed: none fits", scarf.fixed(), 0);
        due("with: none fits", scarf.with(0, 1, 1), 0);
        for (int wrong : WRONG) {
            due("could: " + wrong, x.could(wrong), -1);
            due("sure: " + wrong, x.sure(wrong), -1);
            due("with: word " + wrong, x.with(wrong, 0, 0), -1);
            due("with: takes " + wrong, x.with(0, wrong, 0), -1);
            due("with: leaves " + wrong, x.with(0, 0, wrong), -1);
        }
    }

    private static void stitches() {
        ForeignKnit x = Checks.of(HAT);
        due("least", x.least(0), 0);
        due("most", x.most(0), 4);
        due("kinds", x.kinds(0), 5);
        due("open", x.open(), 1);
        int[] times = {1, 2, 3, 2, 1, 0};
        for (int i = 0; i < times.length; i++) {
            due("has " + i, x.has(0, i), times[i]);
        }
        due("has 99", x.has(0, 99), 0);
        due("has 100", x.has(0, 100), -1);
        due("has -1", x.has(0, -1), -1);
        x.tell(0, 3);
        due("least: told", x.least(0), 3);
        due("most: told", x.most(0), 3);
        due("kinds: told", x.kinds(0), 1);
        due("open: told", x.open(), 0);
        x.tell(0, 5);
        due("least: none fits", x.least(0), -1);
        due("most: none fits", x.most(0), -1);
        due("kinds: none fits", x.kinds(0), 0);
        due("open: none fits", x.open(), 0);
        due("has: none fits", x.has(0, 5), 0);
        due("chance: none fits", x.chance(0, 5), -1);
        for (int wrong : WRONG) {
            due("least: " + wrong, x.least(wrong), -1);
            due("most: " + wrong, x.most(wrong), -1);
            due("kinds: " + wrong, x.kinds(wrong), -1);
            due("has: row " + wrong, x.has(wrong, 1), -1);
        }
        due("least: no such row", x.least(1), -1);
        ForeignKnit pair = Checks.of(PAIR);
        due("open: both", pair.open(), 3);
        pair.tell(0, 2);
        due("open: the second one", pair.open(), 2);
        due("kinds: three", pair.kinds(1), 3);
        ForeignKnit wide = Checks.of("word a any;rules leaves = 2;casts 60;row a 20 a 20 a 20;");
        due("most: 120", wide.most(0), 120);
        due("least: 120", wide.least(0), 120);
        due("kinds: 120", wide.kinds(0), 1);
        due("chance: 120 are 99 or more", wide.chance(0, 99), 1000000);
        due("has: 99", wide.has(0, 99), 0);
    }

    private static void asking() {
        ForeignKnit pair = Checks.of(PAIR);
        due("ask: the one that parts best", pair.ask(), 1);
        due("learn: equal ones, the first", pair.learn(), 0);
        pair.tell(1, 4);
        due("ask: the other one", pair.ask(), 0);
        pair.guess(0, 1, 2);
        due("ask: none parts one", pair.ask(), -1);
        due("learn: none parts one", pair.learn(), -1);
        pair.guess(0, 0, 1);
        due("ask: none fits", pair.ask(), -1);
        due("learn: none fits", pair.learn(), -1);
        due("ask: new", new ForeignKnit().ask(), -1);
        due("learn: hat", Checks.of(HAT).learn(), 1);
        ForeignKnit loose = Checks.of(LOOSE);
        due("learn: loose", loose.learn(), 0);
        loose.guess(0, 1, 1);
        due("learn: not the guessed one", loose.learn(), 1);
        ForeignKnit same = Checks.of("word aa even;word bb any;casts 2;row aa 2;row aa 2;");
        due("ask: as many behind each", same.ask(), -1);
        due("learn: the one in no row", same.learn(), 1);
        ForeignKnit equal = Checks.of("word aa any;casts 1;row aa;word bb any;");
        due("ask: one row", equal.ask(), 0);
        ForeignKnit two = Checks.of("word aa any;word bb even;word cc even;casts 1;row cc;row aa;row bb;");
        due("fits: two", two.fits(), 3);
        due("ask: equal ones, the first", two.ask(), 1);
        two.tell(1, 1);
        due("ask: not one with a count", two.ask(), -1);
    }

    private static void allGuessed() {
        ForeignKnit x = Checks.of(DRESS);
        x.guess(1, 1, 1);
        due("bad: not all guessed", x.bad(), -1);
        due("off: not all guessed", x.off(), 0);
        due("behind: not all guessed", x.behind(0), -1);
        x.guess(0, 2, 1);
        due("bad: none", x.bad(), -1);
        due("off: none", x.off(), 0);
        due("behind", x.behind(0), 2);
        x.guess(0, 2, 2);
        due("bad: the second", x.bad(), 1);
        due("off: fewer", x.off(), -1);
        due("behind", x.behind(0), 3);
        due("behind: does not go up", x.behind(1), 2);
        x.guess(0, 0, 1);
        due("bad: the first", x.bad(), 0);
        due("off: two fewer", x.off(), -2);
        x.guess(0, 2, 1);
        x.guess(1, 2, 2);
        due("bad: takes more", x.bad(), 0);
        due("off: one more", x.off(), 1);
        x.guess(1, 1, 1);
        x.tell(1, 3);
        due("bad: by a count", x.bad(), 1);
        due("off: it goes up", x.off(), 0);
        x.tell(0, 5);
        due("bad: by the first count", x.bad(), 0);
        due("off: that one goes up", x.off(), 0);
        x.tell(0, 2);
        x.guess(0, 2, 0);
        due("bad: a count, though the next row does not go up either", x.bad(), 0);
        due("off: of that row", x.off(), 0);
        for (int wrong : WRONG) {
            due("behind: " + wrong, x.behind(wrong), -1);
        }
        due("behind: no such row", x.behind(2), -1);
        due("bad: new", new ForeignKnit().bad(), -1);
    }

    private static void twinsAndIdle() {
        ForeignKnit x = Checks.of("word aa even;word bb even;word cc even;casts 2;row aa 2;row bb 2;");
        due("twins", x.twins(), 1);
        due("idle", x.idle(), 4);
        x.guess(2, 1, 1);
        due("twins: three pairs", x.twins(), 3);
        x.guess(2, 0, 0);
        due("twins: one pair", x.twins(), 1);
        x.guess(0, 2, 2);
        due("twins: none fits", x.twins(), 3);
        due("twins: loose", Checks.of(LOOSE).twins(), 0);
        due("idle: loose", Checks.of(LOOSE).idle(), 15);
        due("twins: pair", Checks.of(PAIR).twins(), 0);
        due("idle: pair", Checks.of(PAIR).idle(), 0);
        due("twins: four words, none fits", Checks.of("word a any;word b any;word c any;word d any;rules 0;").twins(), 6);
        due("idle: new", new ForeignKnit().idle(), 0);
    }

    private static void dropping() {
        ForeignKnit x = Checks.of("word aa even;casts 2;row aa 2;row aa 2;row aa 2;"
            + "after 0 is 3;after 1 is 2;after 2 is 5;");
        due("drops: two of three", x.drops(), 5);
        x.drop(0);
        due("drops: one", x.drops(), 4);
        x.drop(2);
        due("drops: nothing", x.drops(), 0);
        x.guess(0, 2, 2);
        due("drops: by none", x.drops(), -1);
        ForeignKnit pair = Checks.of(PAIR);
        pair.tell(0, 0);
        pair.tell(1, 4);
        due("drops: of equal ones the least", pair.drops(), 1);
        pair.tell(1, 9);
        due("drops: the fewest", pair.drops(), 2);
        pair.tell(0, 9);
        due("drops: both", pair.drops(), 3);
        ForeignKnit later = Checks.of(PAIR);
        later.tell(0, 4);
        later.tell(1, 0);
        due("drops: of equal ones not the last", later.drops(), 1);
        ForeignKnit three = Checks.of("word aa any;word bb any;word cc even;casts 2;row aa bb;row aa 2;row cc 2;");
        due("fits: three rows", three.fits(), 5);
        three.tell(0, 0);
        three.tell(1, 0);
        three.tell(2, 2);
        due("drops: one, not two of lower rows", three.drops(), 4);
        due("drops: slip", Checks.of(SLIP).drops(), -1);
        due("drops: new", new ForeignKnit().drops(), 0);
        ForeignKnit few = Checks.of("word aa any;word bb any;rules takes = 1 and leaves < 2;casts 1;row aa;row bb;row bb;");
        few.tell(0, 1);
        few.tell(1, 0);
        few.tell(2, 1);
        due("drops: one of a higher row, not two lower ones", few.drops(), 2);
    }

    private static void misprinting() {
        ForeignKnit x = Checks.of(SLIP);
        due("misprints", x.misprints(), 2);
        due("misprint: row", x.misprint(0), 2);
        due("misprint: place", x.misprint(1), 0);
        due("misprint: word", x.misprint(2), 0);
        due("misprint: what 3", x.misprint(3), -1);
        for (int wrong : WRONG) {
            due("misprint: what " + wrong, x.misprint(wrong), -1);
        }
        x.tell(2, 2);
        due("misprints: as the count tells", x.misprints(), 2);
        x.tell(2, 3);
        due("misprints: not as the count tells", x.misprints(), 0);
        due("misprint: no row", x.misprint(0), -1);
        due("misprint: no place", x.misprint(1), -1);
        due("misprint: no word", x.misprint(2), -1);
        x.undo();
        due("misprints: undone", x.misprints(), 2);
        ForeignKnit same = Checks.of("word kk even;word ll even;rules takes = 1;casts 2;row kk kk;");
        due("misprints: it fits as it is, too", same.misprints(), 2);
        due("misprint: another word", same.misprint(2), 1);
        ForeignKnit uses = Checks.of("word kk even;word ll even;rules takes = 1 and uses;casts 2;row kk kk;");
        due("misprints: a word without a meaning", uses.misprints(), 0);
        // ll is (1, 2) by its uses alone; the first row must leave three, as its word in the middle is ll
        ForeignKnit stay = Checks.of("word kk any;word ll any;casts 3;row kk 3;row kk ll kk;"
            + "rules takes = 1 and ((uses = 5 and leaves = 1) or (uses = 1 and leaves = 2));after 1 is 3;");
        due("misprints: meanings stay as they are", stay.misprints(), 1);
        due("misprint: the place of ll", stay.misprint(0) * 100 + stay.misprint(1) * 10 + stay.misprint(2), 110);
        ForeignKnit ahead = Checks.of("word kk any;word ll any;casts 2;row kk 2;row kk 3;"
            + "rules takes = 1 and leaves = which + 1;");
        due("misprints: by what the row ahead leaves", ahead.misprints(), 2);
        due("misprint: row 0", ahead.misprint(0), 0);
        ahead.tell(0, 2);
        due("misprints: its count forbids that", ahead.misprints(), 0);
        ahead.tell(0, 3);
        due("misprints: its count asks for that", ahead.misprints(), 2);
        due("misprints: new", new ForeignKnit().misprints(), 0);
    }

    private static void shapes() {
        ForeignKnit x = Checks.of("word a any;word b any;word c any;row a b a;row b c b;row a 3;row a b c;row b a;"
            + "row a b a;row a b b a;row a;");
        boolean[] turned = {true, true, true, false, false, true, true, true};
        for (int row = 0; row < 8; row++) {
            due("turned: row " + row, x.turned(row), turned[row]);
            due("alike: the same row " + row, x.alike(row, row), false);
        }
        due("alike: other words", x.alike(0, 1), true);
        due("alike: other way", x.alike(1, 0), true);
        due("alike: the same words", x.alike(0, 5), true);
        due("alike: one word for two", x.alike(0, 2), false);
        due("alike: two words for one", x.alike(2, 0), false);
        due("alike: three words", x.alike(0, 3), false);
        due("alike: three words the other way", x.alike(3, 0), false);
        due("alike: shorter", x.alike(0, 4), false);
        due("alike: longer", x.alike(4, 0), false);
        for (int wrong : WRONG) {
            due("turned: " + wrong, x.turned(wrong), false);
            due("alike: row " + wrong, x.alike(wrong, 0), false);
            due("alike: other " + wrong, x.alike(0, wrong), false);
        }
        due("turned: no such row", new ForeignKnit().turned(0), false);
    }

    private static void sparing() {
        ForeignKnit pair = Checks.of(PAIR);
        due("spare: no counts", pair.spare(), 0);
        pair.tell(0, 4);
        due("spare: it matters", pair.spare(), 0);
        pair.tell(1, 4);
        due("spare: the second one", pair.spare(), 1);
        pair.tell(1, 9);
        due("spare: none fits without the first one", pair.spare(), 1);
        pair.tell(0, 9);
        due("spare: none fits without either", pair.spare(), 2);
        ForeignKnit same = Checks.of("word aa even;casts 2;row aa 2;row aa 2;after 0 is 2;after 1 is 2;");
        due("spare: both", same.spare(), 2);
        due("strict: hat", Checks.of(HAT).strict(0), 18);
        ForeignKnit scarf = Checks.of(SCARF);
        due("strict: scarf 0", scarf.strict(0), 0);
        scarf.drop(1);
        due("strict: scarf 1", scarf.strict(1), 7);
        scarf.guess(1, 1, 0);
        due("strict: scarf 1 by a guess", scarf.strict(1), 3);
        for (int wrong : WRONG) {
            due("strict: " + wrong, scarf.strict(wrong), -1);
        }
        due("strict: no such row", scarf.strict(2), -1);
        due("strict: another row is down as well", Checks.of("word a any;casts 1;row a 2;row a 4;row a 2;").strict(0), 1);
    }

    private static void chances() {
        ForeignKnit x = Checks.of(HAT);
        int[] chances = {1000000, 888888, 666666, 333333, 111111, 0};
        for (int i = 0; i < chances.length; i++) {
            due("chance " + i, x.chance(0, i), chances[i]);
        }
        due("chance 99", x.chance(0, 99), 0);
        due("chance 100", x.chance(0, 100), -1);
        due("chance -1", x.chance(0, -1), -1);
        due("chance: no such row", x.chance(1, 0), -1);
        for (int wrong : WRONG) {
            due("chance: row " + wrong, x.chance(wrong, 0), -1);
        }
        ForeignKnit many = Checks.of("word a any;word b any;word c any;word d any;row a;rules takes = 0 or which;");
        due("fits: many", many.fits(), 2187);
        due("chance: many", many.chance(0, 0), 1000000);
        due("chance: two thirds of many", many.chance(0, 1), 666666);
    }

    private static int rest(int lose, int casts, int waits, int what) {
        try {
            return new ForeignKnit().rests(lose, casts, waits, what);
        } catch (NoSuchElementException e) {
            return -77;
        }
    }

    private static void rests(int lose, int casts, int waits, int... all) {
        String call = "rests(" + lose + ", " + casts + ", " + waits + ", ";
        due(call + "NONE)", rest(lose, casts, waits, -1), all.length);
        for (int i = 0; i < all.length; i++) {
            due(call + i + ")", rest(lose, casts, waits, i), all[i]);
        }
        due(call + all.length + ")", rest(lose, casts, waits, all.length), -77);
        due(call + "-2)", rest(lose, casts, waits, -2), -77);
    }

    private static void needle() {
        rests(2, 5, 1, 1, 2);
        rests(0, 0, 0, 0, 1, 2, 3);
        rests(0, 1, 0, 1, 2, 3);
        rests(1, 0, 0, 0, 1, 2);
        rests(0, 9, 9, 1, 2);
        rests(9, 0, 9, 0, 1, 2);
        for (int wrong : new int[] {-1, 10, Integer.MIN_VALUE, Integer.MAX_VALUE}) {
            due("rests: lose " + wrong, rest(wrong, 1, 1, -1), -77);
            due("rests: casts " + wrong, rest(1, wrong, 1, -1), -77);
            due("rests: waits " + wrong, rest(1, 1, wrong, -1), -77);
        }
        due("rests: what the least int", rest(1, 1, 1, Integer.MIN_VALUE), -77);
        due("rests: what the greatest int", rest(1, 1, 1, Integer.MAX_VALUE), -77);
    }

    private static void drafting() {
        ForeignKnit empty = new ForeignKnit();
        due("drafts: without words all fit", empty.drafts(0, 99, 0), 99);
        due("drafts: without rows none goes up", empty.drafts(0, 99, 1), 0);
        due("drafts: the first one", empty.drafts(9999, 1, 2), 0);
        ForeignKnit none = Checks.of("word a any;word b any;rules which;row b;row b;");
        due("drafts: no meaning, none fits", none.drafts(5, 9, 0), 0);
        due("drafts: no meaning, no row", none.drafts(5, 9, 1), 0);
        due("drafts: no meaning, no first", none.drafts(5, 9, 2), -1);
        // from 1 on g / 65536 is 16838, 5758, 10113, 17515, 31051, 5627: below 3 that is 2, 1, 0, 1, 1, 2
        ForeignKnit x = Checks.of("word a even;casts 2;row a;row a;row a 2;");
        due("drafts: 16838 below 3 is 2: two rows go up", x.drafts(1, 1, 1), 2);
        due("drafts: then 5758 is 1: one goes up", x.drafts(1, 2, 1), 3);
        due("drafts: then 10113 is 0: two go up", x.drafts(1, 3, 1), 5);
        ForeignKnit fit = Checks.of("word a even;casts 1;row a;");
        due("drafts: the second one is the first that fits", fit.drafts(1, 3, 2), 1);
        due("drafts: one fits", fit.drafts(1, 3, 0), 1);
        due("drafts: 17515 is 1", fit.drafts(1, 4, 0), 2);
        fit.tell(0, 2);
        due("drafts: a count", fit.drafts(1, 4, 0), 0);
        due("drafts: rows go up all the same", fit.drafts(1, 4, 1), 2);
        due("drafts: none is the first", fit.drafts(1, 4, 2), -1);
        fit.tell(0, 1);
        fit.guess(0, 0, 0);
        due("drafts: a guess", fit.drafts(1, 4, 0), 0);
        // a word with one meaning draws as well: 16838 and 5758, 10113 and 17515
        ForeignKnit two = Checks.of("word a even;word b even;rules takes = 1 or which;casts 1;row b;");
        due("drafts: of each word a draw", two.drafts(1, 2, 0), 2);
        due("drafts: the sixth draw", two.drafts(1, 3, 0), 2);
        due("drafts: none", x.drafts(1, 0, 0), -2);
        due("drafts: 100", x.drafts(1, 100, 0), -2);
        due("drafts: seed -1", x.drafts(-1, 1, 0), -2);
        due("drafts: seed 10000", x.drafts(10000, 1, 0), -2);
        due("drafts: what 3", x.drafts(1, 1, 3), -2);
        due("drafts: what -1", x.drafts(1, 1, -1), -2);
    }

    private static void marking() {
        ForeignKnit x = Checks.of(SCARF);
        due("mark: nothing on it", x.mark(0, true), false);
        due("mark: none such", x.mark(4, false), false);
        due("mark: none such, back", x.mark(4, true), false);
        for (int wrong : WRONG) {
            due("mark: " + wrong, x.mark(wrong, false), false);
            due("mark: back " + wrong, x.mark(wrong, true), false);
        }
        x.guess(1, 2, 0);
        x.drop(1);
        due("mark: laid", x.mark(3, false), true);
        due("mark: what can be undone stays", x.count(7), 2);
        x.forget(1);
        x.guess(0, 2, 2);
        x.tell(0, 7);
        due("mark: another one", x.mark(0, false), true);
        Checks.notes(x, "drop 1;");
        due("mark: none fits ahead", x.fits(), 0);
        due("mark: back", x.mark(3, true), true);
        due("mark: one fits", x.fits(), 1);
        due("mark: the guess", x.term(1, 1), 6);
        due("mark: the other one is not guessed", x.term(0, 1), -1);
        due("mark: no count 0", x.line(0, 1), -1);
        due("mark: no count 1", x.line(1, 1), -1);
        due("mark: fits", x.fits(), 1);
        due("mark: nothing can be undone", x.undo(), false);
        due("mark: the notes stay", x.count(6), 1);
        due("mark: back to the other one", x.mark(0, true), true);
        due("mark: guessed", x.count(3), 1);
        due("mark: counted", x.count(4), 1);
        x.tell(1, 1);
        due("mark: laid once more", x.mark(0, false), true);
        x.drop(1);
        x.mark(0, true);
        due("mark: the later one", x.line(1, 1), 1);
        due("mark: stays laid", x.mark(3, true), true);
        due("mark: nothing on 1", x.mark(1, true), false);
    }

    private static void counting() {
        ForeignKnit x = Checks.of(SCARF);
        int[] all = {2, 2, 4, 0, 2, 27, 0, 0, 0};
        for (int what = 0; what < all.length; what++) {
            due("count: " + what, x.count(what), all[what]);
        }
        x.guess(1, 2, 1);
        x.tell(0, 4);
        Checks.notes(x, "drop 1;drop 0;drop 1;");
        Checks.feed(x, "word aa");
        int[] then = {2, 2, 4, 2, 3, 27, 3, 2, 7};
        for (int what = 0; what < then.length; what++) {
            due("count: then " + what, x.count(what), then[what]);
        }
        due("count: 9", x.count(9), -1);
        due("count: -1", x.count(-1), -1);
        due("count: dictionaries of four words", Checks.of("word a any;word b any;word c any;word d any;").count(5), 6561);
        due("count: a word without a meaning", Checks.of("word a any;word b grows;rules takes = 2;").count(5), 0);
    }
}
