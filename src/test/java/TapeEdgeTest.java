/** The boundary cases that part 1 of the document's Terms names: the tape, its tokens, books, notes, rules, faults. */
public final class TapeEdgeTest {
    private static final String TERMS = "Terms 1";
    private static final String WORD = "word aa any;";
    // what the notes here are about: bb is (1, 0) or less, behind row 1 there are 0
    private static final String BOOK = "word aa any;word bb less;casts 1;row aa;row bb;after 1 is 0;";
    private static final String[] RESERVED = {"word", "casts", "row", "after", "is", "rules", "guess", "forget",
        "tell", "drop", "any", "even", "grows", "less", "not", "and", "or"};

    private static final Edges doc = new Edges("TapeEdgeTest");

    private TapeEdgeTest() {
    }

    public static void main(String[] args) {
        tapeLength();
        tapeSigns();
        tapeTaken();
        tokens();
        words();
        numbers();
        signs();
        otherTokens();
        statements();
        wordStatements();
        castsStatements();
        rowStatements();
        items();
        rowLength();
        afterStatements();
        rulesStatements();
        notesLines();
        names();
        tests();
        sums();
        parts();
        facts();
        values();
        faultPlaces();
        firstFault();
        faultKinds();
        faultsOfTooMany();
        bookFromThenOn();
        bookBehindBooks();
        notesFromThenOn();
        atFirst();
        doc.end();
    }

    private static void says(String sentence) {
        doc.says(TERMS, sentence);
    }

    // the tape

    private static void tapeLength() {
        says("The TAPE has at most 1,000 signs");
        ForeignKnit x = new ForeignKnit();
        doc.due("998 signs", Checks.feed(x, " ".repeat(998)), 998);
        doc.due("the 999th", x.feed(' ', 0, 0), 999);
        doc.due("the 1,000th", x.feed(' ', 0, 0), 1000);
        doc.due("the 1,001st", x.feed(' ', 0, 0), 1000);
        ForeignKnit last = new ForeignKnit();
        Checks.feed(last, " ".repeat(1000 - WORD.length()) + WORD);
        doc.due("a book that ends with the 1,000th sign", last.book(), 0);
        doc.due("its word", last.count(0), 1);
        ForeignKnit cut = new ForeignKnit();
        Checks.feed(cut, " ".repeat(1001 - WORD.length()) + WORD);
        doc.due("a book that would end with the 1,001st", cut.book(), 1 + 16 * 1000);
    }

    private static void tapeSigns() {
        says("10 and 32 .. 126");
        for (int sign = 0; sign < 256; sign++) {
            boolean good = sign == 10 || sign >= 32 && sign <= 126;
            doc.due("a byte " + sign, new ForeignKnit().feed(0, sign, 0), good ? 1 : 0);
        }
    }

    private static void tapeTaken() {
        says("what reads it takes it: it is empty then");
        ForeignKnit x = new ForeignKnit();
        Checks.book(x, BOOK);
        doc.due("behind a book", x.count(8), 0);
        Checks.book(x, "word aa any");
        doc.due("behind a book with a fault", x.count(8), 0);
        Checks.notes(x, "drop 1;");
        doc.due("behind notes", x.count(8), 0);
        Checks.notes(x, "drop 1");
        doc.due("behind notes with a fault", x.count(8), 0);
        doc.due("what comes next is read alone", Checks.book(x, WORD), 0);
        doc.due("and nothing is read once more", x.book(), 0);
        doc.due("that book is empty", x.count(0), 0);
        Checks.feed(x, " ".repeat(1000));
        x.notes();
        doc.due("a full one can be fed again", x.feed('a', 'b', 'c'), 3);
    }

    private static void tokens() {
        says("TOKENS, each as long as can be");
        doc.bookFault("^wordaa any;", 1);
        doc.bookFault("word aaany^;", 1);
        doc.bookFault("casts60^", 1);
        doc.due("a number is as long as can be", doc.book("casts 60;").count(2), 60);
        doc.bookFault("casts 6 ^0;", 1);
        doc.bookFault("^ca sts 6;", 1);
        says("blanks (10, 32) between where one likes");
        String bare = "word aa any;casts60;row(aa)2aa3;after0is9;rules(takes)=1or not 0;";
        doc.due("none where they are not asked for", doc.book(bare).line(0, 0), 5);
        StringBuilder wide = new StringBuilder(" \n\n ");
        for (String token : "word aa any ; casts 60 ; row ( aa ) 2 aa 3 ; after 0 is 9 ; rules ( takes ) = 1 or not 0 ;"
                .split(" ")) {
            wide.append(token).append("\n").append("  ");
        }
        doc.due("many between all, and at both ends", doc.book(wide.toString()).line(0, 0), 5);
        doc.book("word\naa\nany;");
        doc.book(" ");
        doc.book("\n");
        doc.bookFault("^word\taa any;", 1);
    }

    private static void words() {
        says("WORDS (letters a .. z, 8 at most)");
        ForeignKnit x = doc.book("word a any;word z any;word abcdefgh any;word zzzzzzzz any;row z zzzzzzzz a abcdefgh;");
        int[] order = {1, 3, 0, 2};
        for (int i = 0; i < order.length; i++) {
            doc.due("word " + i + " of the row", x.there(0, i), order[i]);
        }
        doc.bookFault("word ^abcdefghi any;", 1);
        doc.bookFault("word ^zzzzzzzzzzzzzzzz any;", 1);
        for (String other : new String[] {"`", "{", "A", "Z", "[", "@", "_"}) {
            doc.bookFault("word ^" + other + " any;", 1);
            doc.bookFault("word a^" + other + " any;", 1);
        }
    }

    private static void numbers() {
        says("NUMBERS (1 to 4 digits; a letter may stand right behind)");
        doc.due("one digit", doc.book("casts 9;").count(2), 9);
        doc.due("four digits", doc.book("casts 0059;").count(2), 59);
        doc.bookFault("casts ^00059;", 1);
        doc.book("rules 9999;");
        doc.bookFault("rules ^10000;", 1);
        doc.bookFault("rules ^00000000000000000000001;", 1);
        doc.due("a word behind a number", doc.book(WORD + "row aa 2aa;").line(0, 0), 3);
        doc.due("a number behind a word", doc.book(WORD + "row aa2 aa;").line(0, 0), 3);
        doc.bookFault("casts 5^row", 1);
        for (String other : new String[] {"/", ":"}) {
            doc.bookFault("casts ^" + other + ";", 1);
            doc.bookFault("casts 5^" + other + ";", 1);
        }
    }

    private static void signs() {
        says("the signs ( ) < = + - * ;");
        for (char sign = 33; sign < 127; sign++) {
            String text = "rules 1 " + sign + " 1;";
            int due = "<=+-*".indexOf(sign) >= 0 ? 0 : 1 + 16 * (sign == ';' ? 10 : 8);
            doc.due("book of " + text, Checks.book(new ForeignKnit(), text), due);
        }
        doc.book("rules (1);");
    }

    private static void otherTokens() {
        says("All else (a longer WORD or NUMBER, too, at its first sign) is none.");
        doc.bookFault(" ^abcdefghi", 1);
        doc.bookFault("casts ^12345", 1);
        doc.bookFault(WORD + "row ^aaaaaaaaa;", 1);
        doc.bookFault(WORD + "row aa ^00002;", 1);
        doc.bookFault("^#", 1);
        doc.bookFault("^,word aa any;", 1);
        doc.notesFault(BOOK, "guess ^aaaaaaaaa 0 0;", 1);
        doc.notesFault(BOOK, "tell 0 ^00001;", 1);
        doc.notesFault(BOOK, "^.", 1);
    }

    // the book

    private static void statements() {
        says("BOOK: any number of");
        doc.due("nothing", doc.book("").count(0), 0);
        ForeignKnit x = doc.book("rules 1;word a any;row a;after 0 is 2;word b any;row b;casts 3;"
            + "word c any;after 1 is 4;word d any;row d 5;row d;row d;row d;row c;row a;after 7 is 0;after 3 is 9;");
        doc.due("words", x.count(0), 4);
        doc.due("rows", x.count(1), 8);
        doc.due("casts", x.count(2), 3);
        doc.due("counts", x.count(4), 1 | 2 | 8 | 128);
        for (String first : RESERVED) {
            if (!" word casts row after rules ".contains(" " + first + " ")) {
                doc.bookFault("word a any;row a;^" + first + " 0;", 1);
            }
        }
    }

    private static void wordStatements() {
        says("word: 4 at most, numbered as told");
        String four = "word d any;word b any;word c any;word a any;";
        ForeignKnit x = doc.book(four + "row a b c d;");
        int[] order = {3, 1, 2, 0};
        for (int i = 0; i < 4; i++) {
            doc.due("there(0, " + i + ")", x.there(0, i), order[i]);
        }
        doc.due("words", x.count(0), 4);
        doc.bookFault(four + "^word e any;", 5);
        says("KIND: any, even, grows, less");
        ForeignKnit kinds = doc.book("word a any;word b even;word c grows;word d less;");
        for (int word = 0; word < 4; word++) {
            doc.due("kind of word " + word, kinds.term(word, 0), word);
        }
        for (String other : RESERVED) {
            boolean kind = " any even grows less ".contains(" " + other + " ");
            doc.due(other, Checks.book(new ForeignKnit(), "word a " + other + ";"), kind ? 0 : 1 + 16 * 7);
        }
        doc.bookFault("word a ^takes;", 1);
        doc.bookFault("word a ^some;", 1);
        doc.bookFault("word a ^;", 1);
        doc.bookFault("word a ^1;", 1);
    }

    private static void castsStatements() {
        says("casts 1 to 60, once (0)");
        doc.bookFault("casts ^0;", 4);
        doc.due("1", doc.book("casts 1;").count(2), 1);
        doc.due("60", doc.book("casts 60;").count(2), 60);
        doc.bookFault("casts ^61;", 4);
        doc.bookFault("casts ^9999;", 4);
        doc.bookFault("casts 1;^casts 1;", 3);
        doc.due("not told", doc.book(WORD).count(2), 0);
    }

    private static void rowStatements() {
        says("row: 8 at most, numbered from 0");
        String eight = WORD + "row aa;row aa 2;row aa 3;row aa 4;row aa 5;row aa 6;row aa 7;row aa 8;";
        ForeignKnit x = doc.book(eight);
        for (int row = 0; row < 8; row++) {
            doc.due("words of row " + row, x.line(row, 0), row + 1);
        }
        doc.due("row 8", x.line(8, 0), -2);
        doc.bookFault(eight + "^row aa;", 5);
        says("ITEMS: one at least");
        doc.due("one", doc.book(WORD + "row aa;").line(0, 0), 1);
        doc.bookFault(WORD + "row ^;", 1);
        doc.bookFault(WORD + "row (^)2;", 1);
        doc.bookFault(WORD + "row (aa (^)2)2;", 1);
        doc.bookFault(WORD + "row^", 1);
    }

    private static void items() {
        says("of each NAME or NAME N or ( ITEMS ) N");
        ForeignKnit x = doc.book("word aa any;word bb any;row bb aa 2(aa bb)2(bb)1;");
        int[] words = {1, 0, 0, 0, 1, 0, 1, 1};
        for (int i = 0; i < words.length; i++) {
            doc.due("there(0, " + i + ")", x.there(0, i), words[i]);
        }
        doc.due("no more", x.line(0, 0), words.length);
        doc.bookFault(WORD + "row ^2 aa;", 1);
        doc.bookFault(WORD + "row aa 2 ^2;", 1);
        doc.bookFault(WORD + "row (aa)^;", 1);
        doc.bookFault(WORD + "row (aa)^aa;", 1);
        doc.bookFault(WORD + "row (aa)2 ^2;", 1);
        doc.bookFault(WORD + "row (aa^;", 1);
        doc.bookFault(WORD + "row aa^)2;", 1);
        doc.bookFault(WORD + "row (aa)2^)2;", 1);
        says("the NAME of a word told");
        doc.bookFault("word aa any;row ^bb;word bb any;", 2);
        doc.bookFault("row ^aa;word aa any;", 2);
        doc.book("word aa any;row aa;word bb any;row bb;");
        says("N 1 to 20 (so often)");
        for (String item : new String[] {"aa ", "(aa)"}) {
            doc.bookFault(WORD + "row " + item + "^0;", 4);
            doc.due(item + "1", doc.book(WORD + "row " + item + "1;").line(0, 0), 1);
            doc.due(item + "20", doc.book(WORD + "row " + item + "20;").line(0, 0), 20);
            doc.bookFault(WORD + "row " + item + "^21;", 4);
            doc.bookFault(WORD + "row " + item + "^9999;", 4);
        }
    }

    private static void rowLength() {
        says("no ( within 3 others");
        doc.due("within two", doc.book(WORD + "row (((aa)2)2)2;").line(0, 0), 8);
        doc.bookFault(WORD + "row (((^(aa)2)2)2)2;", 5);
        doc.bookFault(WORD + "row (((aa ^(aa)2)2)2)2;", 5);
        doc.due("one behind the other", doc.book(WORD + "row (aa)1(aa)1(aa)1(aa)1(((aa)1(aa)1)1(aa)1)1;").line(0, 0), 7);
        doc.bookFault(WORD + "row (((aa)1)1(aa(aa ^(aa)1)1)1)1;", 5);
        says("60 words in all at most");
        doc.due("by names", doc.book(WORD + "row " + "aa ".repeat(60) + ";").line(0, 0), 60);
        doc.bookFault(WORD + "row " + "aa ".repeat(61) + "^;", 5);
        doc.due("by numbers", doc.book(WORD + "row aa 20 aa 20 aa 20;").line(0, 0), 60);
        doc.bookFault(WORD + "row aa 20 aa 20 aa 20 aa^;", 5);
        doc.due("by brackets", doc.book(WORD + "row ((aa 5)4)3;").line(0, 0), 60);
        doc.bookFault(WORD + "row ((aa 5)4)3 aa^;", 5);
        doc.bookFault(WORD + "row aa((aa 5)4)3^;", 5);
        doc.bookFault(WORD + "row (((aa 20)20)20)20^;", 5);
        doc.bookFault(WORD + "row (aa 20 aa 11)2^;", 5);
        doc.bookFault(WORD + "row (aa 20 aa 20 aa 20 aa)1^;", 5);
        doc.due("of each row", doc.book(WORD + "row (aa 20)3;row (aa 20)3;").line(1, 0), 60);
    }

    private static void afterStatements() {
        String rows = WORD + "row aa;row aa;";
        says("after: a ROW told, 0 to 99");
        doc.bookFault("after ^0 is 1;", 4);
        doc.bookFault("after ^0 is 1;" + WORD + "row aa;", 4);
        doc.due("row 0", doc.book(rows + "after 0 is 3;").line(0, 1), 3);
        doc.due("row 1", doc.book(rows + "after 1 is 3;").line(1, 1), 3);
        doc.bookFault(rows + "after ^2 is 1;", 4);
        doc.bookFault(rows + "after ^9999 is 1;", 4);
        doc.bookFault(WORD + "row aa;after ^1 is 0;row aa;", 4);
        doc.bookFault(rows + "after ^aa is 1;", 1);
        doc.bookFault(rows + "after 0 is 1;after ^aa is 1;", 1);
        doc.bookFault(rows + "after 0 is 1;after ^;", 1);
        doc.bookFault(rows + "after 0 is 1;after^", 1);
        doc.due("0", doc.book(rows + "after 0 is 0;").line(0, 1), 0);
        doc.due("99", doc.book(rows + "after 0 is 99;").line(0, 1), 99);
        doc.bookFault(rows + "after 0 is ^100;", 4);
        says("each ROW once");
        ForeignKnit both = doc.book(rows + "after 1 is 3;after 0 is 2;");
        doc.due("both", both.count(4), 3);
        doc.bookFault(rows + "after 0 is 0;after ^0 is 0;", 3);
        doc.bookFault(rows + "after 1 is 3;after 0 is 2;after ^0001 is 3;", 3);
    }

    private static void rulesStatements() {
        says("rules: once");
        doc.book("rules 0;");
        doc.bookFault("rules 0;^rules 0;", 3);
        doc.bookFault("rules 1;" + WORD + "^rules 1;", 3);
    }

    // notes and names

    private static void notesLines() {
        says("NOTES: any number of");
        ForeignKnit x = Checks.of(BOOK);
        doc.notes(x, "");
        doc.due("no lines", x.count(6), 0);
        doc.notes(x, "drop 0;tell 0 1;forget aa;guess aa 1 1;drop 0;");
        doc.due("lines", x.count(6), 5);
        ForeignKnit empty = new ForeignKnit();
        doc.notes(empty, " ");
        doc.due("no lines without a book", empty.count(6), 0);
        for (String first : RESERVED) {
            if (!" guess forget tell drop ".contains(" " + first + " ")) {
                doc.notesFault(BOOK, "drop 1;^" + first + " 0;", 1);
            }
        }
        says("(a word takes 0 to 2, leaves 0 to 2; a word; behind a ROW told there are 0 to 99; a ROW told)");
        doc.notes(x, "guess aa 0 0;guess aa 2 2;guess bb 0 2;forget bb;tell 0 0;tell 1 99;drop 0;drop 1;");
        doc.notesFault(BOOK, "guess aa ^3 0;", 4);
        doc.notesFault(BOOK, "guess aa 0 ^3;", 4);
        doc.notesFault(BOOK, "guess ^cc 0 0;", 2);
        doc.notesFault(BOOK, "forget ^cc;", 2);
        doc.notesFault(BOOK, "tell ^2 0;", 4);
        doc.notesFault(BOOK, "tell 0 ^100;", 4);
        doc.notesFault(BOOK, "drop ^2;", 4);
        doc.notesFault("", "guess ^aa 0 0;", 2);
        doc.notesFault("", "forget ^aa;", 2);
        doc.notesFault("", "tell ^0 0;", 4);
        doc.notesFault("", "drop ^0;", 4);
        says("40 lines at most");
        doc.notes(x, "drop 1;".repeat(40));
        doc.due("forty", x.count(6), 40);
        doc.notesFault(BOOK, "drop 1;".repeat(40) + "^drop 1;", 5);
    }

    private static void names() {
        says("A NAME is another WORD than word, casts, row, after, is, rules, guess, forget, tell, drop, the KINDS, not, "
            + "and, or");
        for (String reserved : RESERVED) {
            doc.bookFault("word ^" + reserved + " any;", 1);
            doc.bookFault(WORD + "row aa ^" + reserved + ";", 1);
            doc.notesFault(BOOK, "forget ^" + reserved + ";", 1);
            doc.notesFault(BOOK, "guess ^" + reserved + " 0 0;", 1);
        }
        for (String other : new String[] {"takes", "leaves", "uses", "which", "words", "wor", "rows", "ro", "i", "iss",
            "an", "ands", "no", "nots", "o", "ors", "rule", "lessen", "cast", "afters", "telling", "anyany"}) {
            ForeignKnit x = doc.book("word " + other + " any;row " + other + ";");
            doc.notes(x, "guess " + other + " 0 0;");
        }
        doc.bookFault("word ^1 any;", 1);
        doc.bookFault("word ^( any;", 1);
        says("no two are alike");
        doc.bookFault("word aa any;word ^aa any;", 3);
        doc.bookFault("word aa any;word bb any;word cc any;word ^bb less;", 3);
        doc.bookFault("word abcdefgh any;word ^abcdefgh any;", 3);
        ForeignKnit x = doc.book("word abcdefgh any;word abcdefgg any;word bbcdefgh any;word a any;row a bbcdefgh abcdefgg;");
        doc.due("the last letter is another one", x.there(0, 2), 1);
        doc.due("the first letter is another one", x.there(0, 1), 2);
        doc.due("a shorter one", x.there(0, 0), 3);
        doc.book("word a any;word aa any;word aaa any;word ba any;");
        String told = "word a any;word z any;word ba any;word zz any;";
        for (int i = 0; i < 27 * 26; i++) {
            String name = (i < 26 ? "" : (char) ('a' + i / 26 - 1) + "") + (char) ('a' + i % 26);
            boolean one = told.contains(" " + name + " ");
            if (!name.equals("is") && !name.equals("or")) {
                doc.due("row of " + name, Checks.book(new ForeignKnit(), told + "row " + name + ";"),
                    one ? 0 : 2 + 16 * (told.length() + 4));
            }
        }
    }

    // rules

    /** The meanings that rules leave to two words of any kind, aa four times in the rows, bb never, as bits. */
    private static void rule(String rules, int aa, int bb) {
        ForeignKnit x = Checks.of("word aa any;word bb any;rules " + rules + ";row aa 3;row aa;");
        doc.due("meanings of aa by " + rules, Checks.meanings(x, 0), aa);
        doc.due("meanings of bb by " + rules, Checks.meanings(x, 1), bb);
    }

    private static void rule(String rules, boolean so) {
        rule(rules, so ? 511 : 0, so ? 511 : 0);
    }

    private static void tests() {
        says("E: TEST { and TEST or or TEST }, from the left");
        rule("1 or 0 and 0", false);
        rule("0 and 0 or 1", true);
        rule("0 or 1 and 1", true);
        rule("1 and 0 or 0", false);
        rule("1 and 1 and 1 or 0 or 0 and 1", true);
        doc.bookFault("rules 1 and ^;", 1);
        doc.bookFault("rules 1 or ^and 1;", 1);
        doc.bookFault("rules ^and 1;", 1);
        says("TEST: SUM, or SUM < SUM, or SUM = SUM");
        rule("2 < 3", true);
        rule("3 < 3", false);
        rule("4 < 3", false);
        rule("3 = 3", true);
        rule("3 = 4", false);
        rule("1 + 2 < 2 + 2", true);
        rule("2 + 2 = 2 * 2", true);
        doc.bookFault("rules 1 < 2 ^< 3;", 1);
        doc.bookFault("rules 1 = 1 ^= 1;", 1);
        doc.bookFault("rules 1 < 2 ^= 1;", 1);
        doc.bookFault("rules 1 = 2 ^< 1;", 1);
        doc.bookFault("rules 1 < ^;", 1);
        doc.bookFault("rules ^= 1;", 1);
        doc.book("rules 1 < 2 and 2 < 3 or 3 = 3;");
        doc.book("rules (1 < 2) < 3;");
    }

    private static void sums() {
        says("SUM: PRODUCT { + or - PRODUCT }; PRODUCT: PART { * PART }");
        rule("5 - 2 - 2 = 1", true);
        rule("5 - 2 + 2 = 5", true);
        rule("2 + 3 * 2 = 8", true);
        rule("2 * 3 + 2 = 8", true);
        rule("9 - 2 * 3 - 1 = 2", true);
        rule("2 * 2 * 2 * 2 = 16", true);
        rule("(2 + 3) * 2 = 10", true);
        doc.bookFault("rules 1 + ^;", 1);
        doc.bookFault("rules 1 - ^- 1;", 1);
        doc.bookFault("rules ^- 1;", 1);
        doc.bookFault("rules 2 * ^;", 1);
        doc.bookFault("rules 2 * ^+ 2;", 1);
    }

    private static void parts() {
        says("PART: a NUMBER, a fact, not PART, ( E )");
        rule("0", false);
        rule("1", true);
        rule("9999 = 9998 + 1", true);
        rule("0001 = 1", true);
        rule("not takes = 1", 7, 7);
        rule("not (takes = 1)", 455, 455);
        rule("not 2 * 3 + 1 = 1", true);
        rule("not not takes", 504, 504);
        doc.bookFault("rules ^;", 1);
        doc.bookFault("rules (^);", 1);
        doc.bookFault("rules (1^;", 1);
        doc.bookFault("rules 1^);", 1);
        doc.bookFault("rules not ^;", 1);
        doc.bookFault("rules 1 ^1;", 1);
        doc.bookFault("rules takes ^leaves;", 1);
        doc.bookFault(WORD + "rules ^aa;", 1);
        doc.bookFault("rules^", 1);
        says("no PART lies within 5 of not and ( )");
        rule("not not not not 1", true);
        doc.bookFault("rules not not not not not ^1;", 5);
        rule("((((1))))", true);
        doc.bookFault("rules (((((^1)))));", 5);
        rule("not (not (1))", true);
        doc.bookFault("rules not (not (not ^takes));", 5);
        doc.bookFault("rules (not (not (^1)));", 5);
        doc.bookFault("rules ((((1 + (^1)))));", 5);
        rule("((((1)))) and ((((1)))) * not not not not 2", true);
        String deep = "0 or 1 = 0 + 1 * ";
        rule(deep + "(" + deep + "(" + deep + "(" + deep + "(" + deep + "1))))", true);
        rule(deep + "(" + deep + "(" + deep + "(" + deep + "(" + deep + "0))))", false);
        doc.bookFault("rules ((((1)))) and (((((^1)))));", 5);
    }

    private static void facts() {
        says("Facts: takes, leaves (of a MEANING), uses (how often the word is in all ROWS), which (the word's number)");
        rule("takes = 0", 7, 7);
        rule("takes = 2", 448, 448);
        rule("leaves = 0", 73, 73);
        rule("leaves = 2", 292, 292);
        rule("takes * leaves", 432, 432);
        rule("uses = 4", 511, 0);
        rule("uses = 0", 0, 511);
        rule("which = 0", 511, 0);
        rule("which = 1", 0, 511);
        ForeignKnit later = Checks.of("word aa any;rules uses = 61;row aa;row (aa 20)3;");
        doc.due("uses in rows told behind the rules", Checks.meanings(later, 0), 511);
        ForeignKnit four = Checks.of("word a any;word b any;word c any;word d any;rules which = 3;");
        doc.due("which of the last word is 3", Checks.meanings(four, 3), 511);
        doc.due("which of the one ahead is not", Checks.meanings(four, 2), 0);
        doc.due("a word with the name of a fact", Checks.meanings(Checks.of("word takes any;rules takes = 1;"), 0), 56);
    }

    private static void values() {
        says("Of not, and, or, < and = comes 1 or 0");
        rule("not 7 = 0", true);
        rule("not 0 = 1", true);
        rule("(2 and 4) = 1", true);
        rule("(2 and 0) = 0", true);
        rule("(0 or 7) = 1", true);
        rule("(0 or 0) = 0", true);
        rule("(2 < 9) = 1", true);
        rule("(9 < 2) = 0", true);
        rule("(5 = 5) = 1", true);
        rule("(5 = 6) = 0", true);
        says("what is not 0 is so");
        rule("2", true);
        rule("0 - 1", true);
        rule("takes - 1", 455, 455);
        rule("not (0 - 1)", false);
        rule("(0 - 1) and (0 - 2)", true);
        rule("(0 - 1) or 0", true);
        says("ints wrap");
        rule("256 * 256 * 256 * 256", false);
        rule("256 * 256 * 256 * 128 < 0", true);
        rule("256 * 256 * 256 * 127 + 256 * 256 * 256 < 0", true);
        rule("0 < 0 - 256 * 256 * 256 * 128 - 1", true);
        says("Without rules: 1.");
        ForeignKnit x = Checks.of("word aa any;word bb less;");
        doc.due("meanings of any", Checks.meanings(x, 0), 511);
        doc.due("meanings of less", Checks.meanings(x, 1), 200);
        Checks.book(x, "rules 0;");
        Checks.book(x, WORD);
        doc.due("behind a book with rules", Checks.meanings(x, 0), 511);
    }

    // faults

    private static void faultPlaces() {
        says("kind + 16 * the place (from 0) of a token, the end being one at the text's length");
        doc.due("place 0", Checks.book(new ForeignKnit(), "#"), 1);
        doc.due("place 1", Checks.book(new ForeignKnit(), " #"), 17);
        doc.due("kind 5 at 44", Checks.book(new ForeignKnit(), "word a any;word b any;word c any;word d any;word"), 5 + 16 * 44);
        doc.bookFault("casts 5^", 1);
        doc.bookFault("casts 5  \n ^", 1);
        doc.bookFault("casts^", 1);
        doc.bookFault("word^", 1);
        doc.bookFault("word aa^", 1);
        doc.bookFault("word aa any ^", 1);
        doc.bookFault(WORD + "row aa^", 1);
        doc.bookFault(WORD + "row (aa)^", 1);
        doc.bookFault(WORD + "row aa;after^", 1);
        doc.bookFault(WORD + "row aa;after 0^", 1);
        doc.bookFault(WORD + "row aa;after 0 is^", 1);
        doc.bookFault(WORD + "row aa;after 0 is 1^", 1);
        doc.bookFault("rules 1^", 1);
        doc.bookFault("rules (1^", 1);
        for (String line : new String[] {"guess^", "guess aa^", "guess aa 1^", "guess aa 1 1^", "forget^", "forget aa^",
            "tell^", "tell 0^", "tell 0 1^", "drop^", "drop 0^", "drop 0; drop 0 \n ^"}) {
            doc.notesFault(BOOK, line, 1);
        }
        doc.bookFault(" ".repeat(994) + "casts ^", 1);
    }

    private static void firstFault() {
        says("of the first token from the left that is wrong the least");
        doc.bookFault("word aa any;row aa ^21 bb #;", 4);
        doc.bookFault("word aa any;row ^bb 21 #;", 2);
        doc.bookFault("casts 5;^casts 61 #", 3);
        doc.bookFault("casts ^61;casts 5;", 4);
        doc.bookFault("casts 60 ^#;casts 0;", 1);
        doc.notesFault(BOOK, "tell 0 1;tell ^7 100;guess cc 3 3", 4);
        String long61 = WORD + "row aa 20 aa 20 aa 20 aa ";
        doc.bookFault(long61 + "^casts", 1);
        doc.bookFault(long61 + "^bb;", 2);
        doc.bookFault(long61 + "^", 1);
        doc.bookFault(long61 + "^);", 1);
        doc.bookFault(long61 + "^0;", 4);
        doc.bookFault("rules (((((^;", 1);
        doc.bookFault("rules (((((^)", 1);
        doc.bookFault("rules (((((^aa", 1);
        doc.bookFault("rules not not not not not ^", 1);
        doc.bookFault("rules not not not not not ^12345", 1);
        doc.notesFault(BOOK, "drop 1;".repeat(40) + "^word", 1);
        doc.notesFault(BOOK, "drop 1;".repeat(40) + "^7", 1);
        doc.bookFault(WORD + "row (((^);", 1);
    }

    private static void faultKinds() {
        says("1 it is none, or can't stand there");
        doc.bookFault("^aa", 1);
        doc.bookFault("^5", 1);
        doc.bookFault("^;", 1);
        doc.bookFault("^is", 1);
        doc.bookFault("^guess aa 1 1;", 1);
        doc.bookFault("word aa any ^word bb any;", 1);
        doc.bookFault(WORD + "row aa;after 0 ^= 1;", 1);
        doc.notesFault(BOOK, "^aa", 1);
        doc.notesFault(BOOK, "^row aa;", 1);
        doc.notesFault(BOOK, "tell ^aa 1;", 1);
        doc.notesFault(BOOK, "drop ^bb;", 1);
        doc.notesFault(BOOK, "forget ^0;", 1);
        doc.notesFault(BOOK, "guess ^1 1;", 1);
        doc.notesFault(BOOK, "guess aa 1^;", 1);
        doc.notesFault(BOOK, "guess aa 1 1 ^1;", 1);
        says("2 a NAME of no word told");
        doc.bookFault(WORD + "row ^a;", 2);
        doc.bookFault(WORD + "row aa(^aaa)2;", 2);
        doc.bookFault(WORD + "row ^takes;", 2);
        doc.notesFault(BOOK, "forget ^a;", 2);
        doc.notesFault(BOOK, "guess ^which 1 1;", 2);
        says("3 a NAME told already; casts, rules a second time; a ROW behind after a second time");
        doc.bookFault("word aa any;word ^aa", 3);
        doc.bookFault("casts 2;^casts", 3);
        doc.bookFault("rules 1;^rules", 3);
        doc.bookFault(WORD + "row aa;after 0 is 0;after ^0", 3);
        says("4 a NUMBER that is not as told (a ROW that is none)");
        doc.bookFault("casts ^0", 4);
        doc.bookFault("casts ^61", 4);
        doc.bookFault(WORD + "row aa ^0", 4);
        doc.bookFault(WORD + "row (aa)^21", 4);
        doc.bookFault(WORD + "row aa;after ^1", 4);
        doc.bookFault(WORD + "row aa;after 0 is ^100", 4);
        doc.notesFault(BOOK, "guess aa ^3", 4);
        doc.notesFault(BOOK, "guess aa 2 ^9999", 4);
        doc.notesFault(BOOK, "tell ^2", 4);
        doc.notesFault(BOOK, "tell 1 ^100", 4);
        doc.notesFault(BOOK, "drop ^8", 4);
    }

    private static void faultsOfTooMany() {
        says("5 one too many: the word word of a fifth, row of a ninth, the first word of a 41st line of NOTES");
        doc.bookFault("word a any;word b any;word c any;word d any;^word a", 5);
        doc.bookFault(WORD + "row aa;".repeat(8) + "^row zz", 5);
        doc.bookFault(WORD + "row aa;".repeat(8) + "^rows", 1);
        String full = "drop 1;".repeat(40);
        for (String first : new String[] {"guess", "forget", "tell", "drop"}) {
            doc.notesFault(BOOK, full + "^" + first, 5);
        }
        says("a ( of ITEMS within 3 others; the ; behind a ROW of more than 60 words; not, or a PART, within 5 others");
        doc.bookFault(WORD + "row (((^(", 5);
        doc.bookFault(WORD + "row (aa 20)3 aa^;", 5);
        doc.bookFault("rules not not not not not ^not", 5);
        doc.bookFault("rules (((((^not", 5);
        doc.bookFault("rules (((((^(", 5);
        doc.bookFault("rules not(not(not^(", 5);
        doc.bookFault("rules (((((^uses", 5);
        doc.bookFault("rules (((((^9999", 5);
    }

    private static void bookFromThenOn() {
        says("Without a FAULT a BOOK is the BOOK from then on: nothing GUESSED, counts as told, no NOTES, nothing can be "
            + "undone, no MARK is there.");
        ForeignKnit x = Checks.of(BOOK);
        x.guess(0, 1, 1);
        x.tell(0, 1);
        x.drop(1);
        Checks.notes(x, "drop 0;");
        for (int mark = 0; mark < 4; mark++) {
            x.mark(mark, false);
        }
        doc.due("the same book once more", Checks.book(x, BOOK), 0);
        doc.due("nothing guessed", x.count(3), 0);
        doc.due("counts as told", x.count(4), 2);
        doc.due("the count", x.line(1, 1), 0);
        doc.due("no notes", x.count(6), 0);
        doc.due("nothing can be undone", x.undo(), false);
        for (int mark = 0; mark < 4; mark++) {
            doc.due("no mark " + mark, x.mark(mark, true), false);
        }
        doc.due("an empty book", Checks.book(x, ""), 0);
        doc.due("no words", x.count(0), 0);
        doc.due("no rows", x.count(1), 0);
        doc.due("casts nothing", x.count(2), 0);
        doc.due("no counts", x.count(4), 0);
        doc.due("one dictionary", x.fits(), 1);
    }

    /** Whatever was told and asked ahead, with faults or without, a book answers as it does to a new object. */
    private static void bookBehindBooks() {
        says("Without a FAULT a BOOK is the BOOK from then on");
        String large = "word a any;word b any;word c any;word d any;casts 2;row a;row (a b)20 (c d)10;row b;row c;row d;"
            + "row a a b a a b;row d 7;row a b c d;after 0 is 1;after 7 is 0;rules leaves < 2;";
        String[] books = {large, "word c any;casts 2;row c 2;", BOOK, "word d less;word c any;", large, "", BOOK,
            "word c even;word d even;casts 2;row d c;row c 2;", "rules 0;word a any;row a;", BOOK, large,
            "word a any;word b any;casts 3;row a b;row a b;after 1 is 2;", "word a even;row a;", "word a any;row a;"};
        String[] faulty = {"#", large + "after 0 is 1;", "word d any;rules 0;word c less;row c 3 d;row d;after 1 is 5;row"};
        ForeignKnit x = new ForeignKnit();
        ForeignKnit y = new ForeignKnit();
        for (int i = 0; i < books.length; i++) {
            ForeignKnit alone = Checks.of(books[i]);
            doc.due("a book", Checks.book(x, books[i]), 0);
            doc.same("of book " + i + " behind others", x, alone);
            doc.due("a fault", Checks.book(y, faulty[i % faulty.length]) != 0, true);
            Checks.book(y, books[i]);
            doc.same("of book " + i + " behind others with faults", y, alone);
            doc.due("a fault", Checks.book(y, faulty[(i + 1) % faulty.length]) != 0, true);
            doc.same("of book " + i + " ahead of a fault", y, alone);
            x.tell(0, 1);
            x.guess(0, 1, 0);
            x.mark(0, false);
            Checks.notes(x, "drop 0;drop 0;");
            Edges.answers(x);
            x.mark(0, true);
        }
        ForeignKnit small = Checks.of("word a any;");
        Checks.book(small, large);
        Checks.book(small, "word a even;");
        doc.due("a meaning of an older book", small.guess(0, 1, 0), -2);
    }

    private static void notesFromThenOn() {
        says("NOTES are the NOTES.");
        ForeignKnit x = Checks.of(BOOK);
        Checks.notes(x, "drop 1;drop 1;forget aa;");
        doc.due("lines", x.count(6), 3);
        Checks.notes(x, "drop 1;");
        doc.due("fewer lines in their place", x.count(6), 1);
        doc.due("they are judged alone", x.judged(0), -1);
        Checks.notes(x, "");
        doc.due("none in their place", x.count(6), 0);
        doc.due("nothing is done by hand", x.count(7), 0);
    }

    private static void atFirst() {
        says("At first: nothing.");
        ForeignKnit x = new ForeignKnit();
        doc.due("words", x.count(0), 0);
        doc.due("rows", x.count(1), 0);
        doc.due("casts", x.count(2), 0);
        doc.due("guessed", x.count(3), 0);
        doc.due("counts", x.count(4), 0);
        doc.due("notes", x.count(6), 0);
        doc.due("undone", x.undo(), false);
        doc.due("marks", x.mark(0, true), false);
        doc.due("the tape", x.count(8), 0);
    }
}
