import java.util.Arrays;
import java.util.NoSuchElementException;

/** Words of another land's knitting, told by their stitches alone: ../shared/DOC.md says what each call answers. */
public final class ForeignKnit {
    public static final int NONE = -1;

    private static final int OTHERS = -2;
    private static final int WORDS = 4;
    private static final int ROWS = 8;
    private static final int LONGEST = 60;
    private static final int MOST_TOLD = 99;
    private static final int MEANINGS = 9;
    private static final int MARKS = 4;

    private final Tape tape;
    private final BookReader reader;
    private final Hand hand;
    private final Hand[] marks;
    private final boolean[] laid;
    private final Past past;
    private final Shelf shelf;
    private final Tally tally;
    private final Misprints slips;
    private Book told;
    private Book spareBook;
    private Notes noted;
    private Notes spareNotes;
    private Brief shortener;

    public ForeignKnit() {
        tape = new Tape();
        reader = new BookReader(tape);
        hand = new Hand();
        marks = new Hand[MARKS];
        for (int i = 0; i < MARKS; i++) {
            marks[i] = new Hand();
        }
        laid = new boolean[MARKS];
        past = new Past();
        shelf = new Shelf();
        tally = new Tally();
        slips = new Misprints();
        told = new Book();
        spareBook = new Book();
        noted = new Notes();
        spareNotes = new Notes();
    }

    public int feed(long a, long b, long c) {
        tape.add(a);
        tape.add(b);
        tape.add(c);
        return tape.length;
    }

    public int book() {
        int fault = reader.read(spareBook);
        tape.length = 0;
        if (fault != 0) {
            return fault;
        }
        Book old = told;
        told = spareBook;
        spareBook = old;
        noted.clear();
        hand.begin(told);
        past.steps = 0;
        for (int i = 0; i < MARKS; i++) {
            laid[i] = false;
        }
        shelf.bookStale = true;
        shelf.handStale = true;
        slips.stale = true;
        return 0;
    }

    public int notes() {
        int fault = spareNotes.read(tape, told);
        tape.length = 0;
        if (fault != 0) {
            return fault;
        }
        Notes old = noted;
        noted = spareNotes;
        spareNotes = old;
        return 0;
    }

    public int term(int word, int what) {
        if (!isWord(word)) {
            return OTHERS;
        }
        switch (what) {
            case 0:
                return told.kinds[word];
            case 1:
                return hand.guessOf(word);
            case 2:
                return told.sizes[word];
            case 3:
                return told.uses[word];
            default:
                return OTHERS;
        }
    }

    public int line(int row, int what) {
        if (!isRow(row)) {
            return OTHERS;
        }
        switch (what) {
            case 0:
                return told.lengths[row];
            case 1:
                return hand.countOf(row);
            case 2:
                return told.beat(row);
            case 3:
                return briefOf(row);
            default:
                return OTHERS;
        }
    }

    public int there(int row, int i) {
        return isRow(row) ? told.wordAt(row, i) : NONE;
    }

    public int guess(int word, int takes, int leaves) {
        if (!isWord(word) || !isMeaning(takes, leaves)) {
            return OTHERS;
        }
        int meaning = 3 * takes + leaves;
        return told.means(word, meaning) ? change(word, meaning) : OTHERS;
    }

    public int forget(int word) {
        boolean can = isWord(word) && hand.guessOf(word) != NONE;
        return can ? change(word, NONE) : NONE;
    }

    public int tell(int row, int stitches) {
        boolean can = isRow(row) && isCount(stitches);
        return can ? change(WORDS + row, stitches) : OTHERS;
    }

    public int drop(int row) {
        boolean can = isRow(row) && hand.countOf(row) != NONE;
        return can ? change(WORDS + row, NONE) : NONE;
    }

    public boolean undo() {
        boolean can = past.takeBack(hand);
        if (can) {
            handChanged();
        }
        return can;
    }

    public int judged(int what) {
        if (what < 0 || what > 2) {
            return OTHERS;
        }
        if (noted.stale) {
            noted.judge(told, laidShelf());
        }
        return what == 0 ? noted.impossible : what == 1 ? noted.stuck : noted.left;
    }

    public int fits() {
        return readyShelf().fitting;
    }

    public int entry(int number, int word) {
        Shelf ready = readyShelf();
        if (!isWord(word) || number < 0 || number >= ready.fitting || number >= ready.fit.length) {
            return NONE;
        }
        return Shelf.meaningIn(ready.fit[number], word);
    }

    public int could(int word) {
        return isWord(word) ? talliedWord(word).bits() : NONE;
    }

    public int sure(int word) {
        return isWord(word) ? talliedWord(word).only() : NONE;
    }

    public int fixed() {
        int bits = 0;
        for (int word = 0; word < told.words; word++) {
            if (talliedWord(word).only() != NONE) {
                bits |= 1 << word;
            }
        }
        return bits;
    }

    public int with(int word, int takes, int leaves) {
        if (!isWord(word) || !isMeaning(takes, leaves)) {
            return NONE;
        }
        return talliedWord(word).of(3 * takes + leaves);
    }

    public int least(int row) {
        return isRow(row) ? talliedRow(row).lowest() : NONE;
    }

    public int most(int row) {
        return isRow(row) ? talliedRow(row).highest() : NONE;
    }

    public int kinds(int row) {
        return isRow(row) ? talliedRow(row).differing() : NONE;
    }

    public int open() {
        int bits = 0;
        for (int row = 0; row < told.rows; row++) {
            if (talliedRow(row).differing() > 1) {
                bits |= 1 << row;
            }
        }
        return bits;
    }

    public int has(int row, int stitches) {
        return isRow(row) && isCount(stitches) ? talliedRow(row).of(stitches) : NONE;
    }

    public int ask() {
        int best = readyShelf().fitting;
        int found = NONE;
        for (int row = 0; row < told.rows; row++) {
            if (hand.countOf(row) == NONE && talliedRow(row).greatest() < best) {
                best = tally.greatest();
                found = row;
            }
        }
        return found;
    }

    public int learn() {
        int best = readyShelf().fitting;
        int found = NONE;
        for (int word = 0; word < told.words; word++) {
            if (hand.guessOf(word) == NONE && talliedWord(word).greatest() < best) {
                best = tally.greatest();
                found = word;
            }
        }
        return found;
    }

    public int bad() {
        if (!hand.allGuessed(told.words)) {
            return NONE;
        }
        int guesses = hand.packed();
        for (int row = 0; row < told.rows; row++) {
            int count = hand.countOf(row);
            boolean misses = count != NONE && told.leavesOf(row, guesses) != count;
            if (misses || told.excess(row, guesses) != 0) {
                return row;
            }
        }
        return NONE;
    }

    public int off() {
        int row = bad();
        return row == NONE ? 0 : told.excess(row, hand.packed());
    }

    public int behind(int row) {
        boolean known = isRow(row) && hand.allGuessed(told.words);
        return known ? told.leavesOf(row, hand.packed()) : NONE;
    }

    public int twins() {
        Shelf ready = readyShelf();
        int pairs = 0;
        for (int one = 0; one < told.words; one++) {
            for (int other = one + 1; other < told.words; other++) {
                if (ready.alwaysSame(one, other)) {
                    pairs++;
                }
            }
        }
        return pairs;
    }

    public int idle() {
        int bits = 0;
        for (int word = 0; word < told.words; word++) {
            if (told.uses[word] == 0) {
                bits |= 1 << word;
            }
        }
        return bits;
    }

    public int drops() {
        return laidShelf().fewestMissed(hand);
    }

    public int misprints() {
        return knownSlips().ways;
    }

    public int misprint(int what) {
        Misprints known = knownSlips();
        switch (what) {
            case 0:
                return known.row;
            case 1:
                return known.place;
            case 2:
                return known.word;
            default:
                return NONE;
        }
    }

    public boolean turned(int row) {
        return isRow(row) && told.sameTurned(row);
    }

    public boolean alike(int row, int other) {
        return isRow(row) && isRow(other) && row != other && told.sameShape(row, other);
    }

    public int spare() {
        int needed = laidShelf().neededCounts(hand);
        return Integer.bitCount(hand.countBits() & ~needed);
    }

    public int strict(int row) {
        return isRow(row) ? laidShelf().heldBackBy(row, hand) : NONE;
    }

    public int chance(int row, int stitches) {
        int all = readyShelf().fitting;
        if (!isRow(row) || !isCount(stitches) || all <= 0) {
            return NONE;
        }
        long reaching = talliedRow(row).from(stitches);
        return (int) (reaching * 1000000L / all);
    }

    public int rests(int lose, int casts, int waits, int what) throws NoSuchElementException {
        if (!isDigit(lose) || !isDigit(casts) || !isDigit(waits) || what < NONE) {
            throw new NoSuchElementException("none such");
        }
        int many = 0;
        for (int both = 0; both < 4; both++) {
            int one = both / 2;
            int other = both % 2;
            if (isBest(lose, casts, waits, one, other) && isBest(lose, casts, waits, other, one)) {
                if (many == what) {
                    return both;
                }
                many++;
            }
        }
        if (what != NONE) {
            throw new NoSuchElementException("none such");
        }
        return many;
    }

    public int drafts(int seed, int many, int what) {
        if (seed < 0 || seed > 9999 || many < 1 || many > 99 || what < 0 || what > 2) {
            return OTHERS;
        }
        if (told.dictionaries() == 0) {
            return what == 2 ? NONE : 0;
        }
        int fitting = 0;
        int up = 0;
        int first = NONE;
        long g = seed;
        for (int i = 0; i < many; i++) {
            int packed = 0;
            for (int word = 0; word < told.words; word++) {
                g = (g * 1103515245L + 12345L) % 2147483648L;
                packed |= told.meaningBelow(word, g / 65536) << 4 * word;
            }
            int down = told.rowsDown(packed, ROWS);
            up += told.rows - Integer.bitCount(down);
            if (down == 0 && hand.agrees(packed, told)) {
                fitting++;
                first = first == NONE ? i : first;
            }
        }
        return what == 0 ? fitting : what == 1 ? up : first;
    }

    public boolean mark(int mark, boolean back) {
        if (mark < 0 || mark >= MARKS || (back && !laid[mark])) {
            return false;
        }
        if (back) {
            hand.copy(marks[mark]);
            past.steps = 0;
            handChanged();
        } else {
            marks[mark].copy(hand);
            laid[mark] = true;
        }
        return true;
    }

    public int count(int what) {
        switch (what) {
            case 0:
                return told.words;
            case 1:
                return told.rows;
            case 2:
                return told.casts;
            case 3:
                return hand.guessBits();
            case 4:
                return hand.countBits();
            case 5:
                return told.dictionaries();
            case 6:
                return noted.lines;
            case 7:
                return past.steps;
            case 8:
                return tape.length;
            default:
                return NONE;
        }
    }

    private boolean isWord(int word) {
        return word >= 0 && word < told.words && word < WORDS;
    }

    private boolean isRow(int row) {
        return row >= 0 && row < told.rows && row < ROWS;
    }

    private static boolean isMeaning(int takes, int leaves) {
        return takes >= 0 && takes <= 2 && leaves >= 0 && leaves <= 2;
    }

    private static boolean isCount(int stitches) {
        return stitches >= 0 && stitches <= MOST_TOLD;
    }

    private static boolean isDigit(int number) {
        return number >= 0 && number <= 9;
    }

    /** Does one thing by hand so that it can be undone, and answers what was there ahead. */
    private int change(int slot, int value) {
        int ahead = hand.put(slot, value);
        past.keep(slot, ahead);
        handChanged();
        return ahead;
    }

    private void handChanged() {
        shelf.handStale = true;
        slips.stale = true;
    }

    private Shelf laidShelf() {
        if (shelf.bookStale) {
            shelf.lay(told);
        }
        return shelf;
    }

    private Shelf readyShelf() {
        Shelf ready = laidShelf();
        if (ready.handStale) {
            ready.choose(hand);
        }
        return ready;
    }

    private Tally talliedWord(int word) {
        readyShelf().tallyWord(word, tally);
        return tally;
    }

    private Tally talliedRow(int row) {
        readyShelf().tallyRow(row, tally);
        return tally;
    }

    private Misprints knownSlips() {
        if (slips.stale) {
            slips.find(told, laidShelf(), hand);
        }
        return slips;
    }

    private int briefOf(int row) {
        if (told.briefs[row] == 0) {
            if (shortener == null) {
                shortener = new Brief();
            }
            told.briefs[row] = shortener.fewest(told.places[row], told.lengths[row]);
        }
        return told.briefs[row];
    }

    /** Whether one of the two at the needle would not get more by the other choice. */
    private static boolean isBest(int lose, int casts, int waits, int own, int others) {
        return gain(lose, casts, waits, own, others) >= gain(lose, casts, waits, 1 - own, others);
    }

    private static int gain(int lose, int casts, int waits, int own, int others) {
        if (own == 1) {
            return others == 1 ? -lose : casts;
        }
        return others == 1 ? waits : 0;
    }

    /** The signs that nothing has read yet, their tokens one after the other, the fault of the first wrong one. */
    private static final class Tape {
        static final int MOST = 1000;

        static final int END = 0;
        static final int WORD = 1;
        static final int NUMBER = 2;
        static final int SIGN = 3;
        static final int NOTHING = 4;

        static final int MISPLACED = 1;
        static final int UNTOLD = 2;
        static final int TWICE = 3;
        static final int NOT_AS_TOLD = 4;
        static final int TOO_MANY = 5;

        static final int NO_KEY = -1;
        static final int KEY_WORD = 0;
        static final int KEY_CASTS = 1;
        static final int KEY_ROW = 2;
        static final int KEY_AFTER = 3;
        static final int KEY_IS = 4;
        static final int KEY_RULES = 5;
        static final int KEY_GUESS = 6;
        static final int KEY_FORGET = 7;
        static final int KEY_TELL = 8;
        static final int KEY_DROP = 9;
        static final int KEY_ANY = 10;
        static final int KEY_LESS = 13;
        static final int KEY_NOT = 14;
        static final int KEY_AND = 15;
        static final int KEY_OR = 16;
        static final int KEY_TAKES = 17;
        static final int KEY_WHICH = 20;

        private static final int LETTERS = 8;
        private static final int DIGITS = 4;
        // one key in each eight signs, by the numbers above
        private static final String KEYS = "word    casts   row     after   is      rules   guess   forget  tell    drop    any     even    grows   less    not     and     or      takes   leaves  uses    which   ";
        private static final String SIGNS = "()<=+-*;";

        final char[] signs = new char[MOST];
        int length;
        int kind;
        int place;
        int number;
        int key;
        char sign;
        long name;
        int fault;
        private int at;

        void add(long eight) {
            for (int shift = 56; shift >= 0; shift -= 8) {
                int code = (int) (eight >>> shift) & 255;
                boolean good = code == 10 || (code >= 32 && code <= 126);
                if (good && length >= 0 && length < MOST) {
                    signs[length] = (char) code;
                    length++;
                }
            }
        }

        void begin() {
            at = 0;
            fault = 0;
            next();
        }

        void next() {
            while (at >= 0 && at < length && (signs[at] == ' ' || signs[at] == '\n')) {
                at++;
            }
            place = at;
            key = NO_KEY;
            if (at < 0 || at >= length) {
                kind = END;
                return;
            }
            sign = signs[at];
            kind = kindOf(sign);
            long value = valueOf(sign);
            at++;
            boolean word = kind == WORD;
            if (!word && kind != NUMBER) {
                return;
            }
            while (at < length && kindOf(signs[at]) == kind) {
                value = value * (word ? 32 : 10) + valueOf(signs[at]);
                at++;
            }
            if (at - place > (word ? LETTERS : DIGITS)) {
                kind = NOTHING;
            } else if (word) {
                name = value;
                key = keyOf(value);
            } else {
                number = (int) value;
            }
        }

        private static int kindOf(char sign) {
            if (sign >= 'a' && sign <= 'z') {
                return WORD;
            }
            if (sign >= '0' && sign <= '9') {
                return NUMBER;
            }
            return SIGNS.indexOf(sign) >= 0 ? SIGN : NOTHING;
        }

        // letters count from 1, so that no name is another one with more of its first letter ahead
        private static int valueOf(char sign) {
            return sign >= 'a' ? sign - 'a' + 1 : sign - '0';
        }

        private static int keyOf(long value) {
            for (int start = 0; start + LETTERS <= KEYS.length(); start += LETTERS) {
                long other = 0;
                for (int i = start; i < start + LETTERS && KEYS.charAt(i) != ' '; i++) {
                    other = other * 32 + valueOf(KEYS.charAt(i));
                }
                if (other == value) {
                    return start / LETTERS;
                }
            }
            return NO_KEY;
        }

        boolean isSign(char wanted) {
            return kind == SIGN && sign == wanted;
        }

        // takes, leaves, uses and which mean something in rules alone, so a word may bear such a name
        boolean isName() {
            return kind == WORD && (key == NO_KEY || key >= KEY_TAKES);
        }

        boolean wrong(int how) {
            fault = how + 16 * place;
            return false;
        }

        boolean takeEnd() {
            if (!isSign(';')) {
                return wrong(MISPLACED);
            }
            next();
            return true;
        }

        /** The number that stands here, or NONE behind a fault. */
        int takeNumber(int low, int high) {
            if (kind != NUMBER) {
                wrong(MISPLACED);
                return NONE;
            }
            if (number < low || number > high) {
                wrong(NOT_AS_TOLD);
                return NONE;
            }
            int taken = number;
            next();
            return taken;
        }

        /** The word whose name stands here, or NONE behind a fault. */
        int takeName(Book of) {
            if (!isName()) {
                wrong(MISPLACED);
                return NONE;
            }
            int word = of.wordNamed(name);
            if (word == NONE) {
                wrong(UNTOLD);
                return NONE;
            }
            next();
            return word;
        }
    }

    /** The rules that a meaning must keep: read into steps, each over what the steps before it came to. */
    private static final class Rules {
        private static final int DEEPEST = 5;
        private static final int NOT = -5;
        private static final int AND = -6;
        private static final int OR = -7;
        private static final int LESS = -8;
        private static final int SAME = -9;
        private static final int PLUS = -10;
        private static final int MINUS = -11;
        private static final int TIMES = -12;

        private final Tape tape;
        // a number stands for itself, a fact for -1 to -4
        private final int[] steps = new int[Tape.MOST];
        private final int[] stack = new int[32];
        private int length;

        Rules(Tape tape) {
            this.tape = tape;
        }

        void clear() {
            length = 0;
            addStep(1);
        }

        boolean read() {
            length = 0;
            return readAll(0);
        }

        private boolean readAll(int depth) {
            if (!readTest(depth)) {
                return false;
            }
            for (int i = 0; i < Tape.MOST; i++) {
                int key = tape.key;
                if (key != Tape.KEY_AND && key != Tape.KEY_OR) {
                    return true;
                }
                tape.next();
                if (!readTest(depth)) {
                    return false;
                }
                addStep(key == Tape.KEY_AND ? AND : OR);
            }
            return true;
        }

        private boolean readTest(int depth) {
            if (!readSum(depth)) {
                return false;
            }
            boolean less = tape.isSign('<');
            if (!less && !tape.isSign('=')) {
                return true;
            }
            tape.next();
            if (!readSum(depth)) {
                return false;
            }
            addStep(less ? LESS : SAME);
            return true;
        }

        private boolean readSum(int depth) {
            if (!readProduct(depth)) {
                return false;
            }
            for (int i = 0; i < Tape.MOST; i++) {
                boolean plus = tape.isSign('+');
                if (!plus && !tape.isSign('-')) {
                    return true;
                }
                tape.next();
                if (!readProduct(depth)) {
                    return false;
                }
                addStep(plus ? PLUS : MINUS);
            }
            return true;
        }

        private boolean readProduct(int depth) {
            if (!readPart(depth)) {
                return false;
            }
            for (int i = 0; i < Tape.MOST && tape.isSign('*'); i++) {
                tape.next();
                if (!readPart(depth)) {
                    return false;
                }
                addStep(TIMES);
            }
            return true;
        }

        private boolean readPart(int depth) {
            boolean number = tape.kind == Tape.NUMBER;
            boolean fact = tape.key >= Tape.KEY_TAKES && tape.key <= Tape.KEY_WHICH;
            boolean not = tape.key == Tape.KEY_NOT;
            if (!number && !fact && !not && !tape.isSign('(')) {
                return tape.wrong(Tape.MISPLACED);
            }
            if (depth >= DEEPEST) {
                return tape.wrong(Tape.TOO_MANY);
            }
            if (number || fact) {
                addStep(number ? tape.number : Tape.KEY_TAKES - 1 - tape.key);
                tape.next();
                return true;
            }
            tape.next();
            return not ? readNegated(depth + 1) : readBracketed(depth + 1);
        }

        private boolean readNegated(int depth) {
            if (!readPart(depth)) {
                return false;
            }
            addStep(NOT);
            return true;
        }

        private boolean readBracketed(int depth) {
            if (!readAll(depth)) {
                return false;
            }
            if (!tape.isSign(')')) {
                return tape.wrong(Tape.MISPLACED);
            }
            tape.next();
            return true;
        }

        private void addStep(int step) {
            if (length >= 0 && length < steps.length) {
                steps[length] = step;
                length++;
            }
        }

        int value(int takes, int leaves, int uses, int which) {
            int top = 0;
            for (int i = 0; i < length && i < steps.length; i++) {
                int step = steps[i];
                if (step > NOT) {
                    if (top < 0 || top >= stack.length) {
                        return 0;
                    }
                    stack[top] = step >= 0 ? step : fact(step, takes, leaves, uses, which);
                    top++;
                } else if (step == NOT) {
                    if (top < 1 || top > stack.length) {
                        return 0;
                    }
                    stack[top - 1] = stack[top - 1] == 0 ? 1 : 0;
                } else {
                    if (top < 2 || top > stack.length) {
                        return 0;
                    }
                    top--;
                    stack[top - 1] = join(step, stack[top - 1], stack[top]);
                }
            }
            return stack[0];
        }

        private static int fact(int step, int takes, int leaves, int uses, int which) {
            switch (step) {
                case -1:
                    return takes;
                case -2:
                    return leaves;
                case -3:
                    return uses;
                default:
                    return which;
            }
        }

        private static int join(int step, int left, int right) {
            switch (step) {
                case AND:
                    return left != 0 && right != 0 ? 1 : 0;
                case OR:
                    return left != 0 || right != 0 ? 1 : 0;
                case LESS:
                    return left < right ? 1 : 0;
                case SAME:
                    return left == right ? 1 : 0;
                case PLUS:
                    return left + right;
                case MINUS:
                    return left - right;
                default:
                    return left * right;
            }
        }
    }

    /**
     * A book as it was told. A dictionary of it, or what is guessed, is packed into an int:
     * four bits for the meaning of each word, 3 * takes + leaves, word 0 in the lowest.
     */
    private static final class Book {
        /** What stands for three rows or more that do not go up: nothing ever asks which. */
        static final int MANY = 255;

        int words;
        final long[] names = new long[WORDS];
        final int[] kinds = new int[WORDS];
        final int[] uses = new int[WORDS];
        final int[] sizes = new int[WORDS];
        final int[][] meanings = new int[WORDS][MEANINGS];
        int casts;
        int rows;
        final int[] lengths = new int[ROWS];
        final int[][] places = new int[ROWS][LONGEST];
        final int[][] inRow = new int[ROWS][WORDS];
        final int[] counts = new int[ROWS];
        final int[] briefs = new int[ROWS];

        Book() {
            Arrays.fill(counts, NONE);
        }

        void clear() {
            words = 0;
            casts = 0;
            rows = 0;
            Arrays.fill(uses, 0);
            Arrays.fill(sizes, 0);
            Arrays.fill(counts, NONE);
            Arrays.fill(briefs, 0);
        }

        int wordNamed(long name) {
            for (int word = 0; word < words && word < WORDS; word++) {
                if (names[word] == name) {
                    return word;
                }
            }
            return NONE;
        }

        void countUses() {
            for (int row = 0; row < rows && row < ROWS; row++) {
                Arrays.fill(inRow[row], 0);
                for (int i = 0; i < lengths[row]; i++) {
                    int word = wordAt(row, i);
                    if (word >= 0 && word < WORDS) {
                        inRow[row][word]++;
                        uses[word]++;
                    }
                }
            }
        }

        void findMeanings(Rules rules) {
            for (int word = 0; word < words && word < WORDS; word++) {
                int size = 0;
                for (int meaning = 0; meaning < MEANINGS; meaning++) {
                    int takes = meaning / 3;
                    int leaves = meaning % 3;
                    boolean good = isOfKind(kinds[word], takes, leaves)
                        && rules.value(takes, leaves, uses[word], word) != 0;
                    if (good && size < MEANINGS) {
                        meanings[word][size] = meaning;
                        size++;
                    }
                }
                sizes[word] = size;
            }
        }

        private static boolean isOfKind(int kind, int takes, int leaves) {
            switch (kind) {
                case 1:
                    return leaves == takes;
                case 2:
                    return leaves > takes;
                case 3:
                    return leaves < takes;
                default:
                    return true;
            }
        }

        boolean means(int word, int meaning) {
            for (int i = 0; word >= 0 && word < WORDS && i < sizes[word] && i < MEANINGS; i++) {
                if (meanings[word][i] == meaning) {
                    return true;
                }
            }
            return false;
        }

        /** The meaning of a word that a draw comes to. */
        int meaningBelow(int word, long draw) {
            int size = sizes[word];
            if (size <= 0 || draw < 0) {
                return 0;
            }
            int i = (int) (draw % size);
            return i < MEANINGS ? meanings[word][i] : 0;
        }

        int dictionaries() {
            int all = 1;
            for (int word = 0; word < words && word < WORDS; word++) {
                all *= sizes[word];
            }
            return all;
        }

        int wordAt(int row, int i) {
            return i >= 0 && i < lengths[row] && i < LONGEST ? places[row][i] : NONE;
        }

        int takesOf(int row, int packed) {
            int sum = 0;
            for (int word = 0; word < words && word < WORDS; word++) {
                sum += inRow[row][word] * ((packed >> 4 * word & 15) / 3);
            }
            return sum;
        }

        int leavesOf(int row, int packed) {
            int sum = 0;
            for (int word = 0; word < words && word < WORDS; word++) {
                sum += inRow[row][word] * ((packed >> 4 * word & 15) % 3);
            }
            return sum;
        }

        /** How many more the words of a row take than there are. */
        int excess(int row, int packed) {
            int there = row == 0 ? casts : leavesOf(row - 1, packed);
            return takesOf(row, packed) - there;
        }

        /** The rows that do not go up, as bits; MANY as soon as there are more than so many. */
        int rowsDown(int packed, int most) {
            int bits = 0;
            int there = casts;
            for (int row = 0; row < rows && row < ROWS; row++) {
                if (takesOf(row, packed) != there) {
                    if (Integer.bitCount(bits) >= most) {
                        return MANY;
                    }
                    bits |= 1 << row;
                }
                there = leavesOf(row, packed);
            }
            return bits;
        }

        int beat(int row) {
            int length = lengths[row];
            for (int step = 1; step < length; step++) {
                if (length % step == 0 && repeats(places[row], 0, length, step)) {
                    return step;
                }
            }
            return length;
        }

        /** Whether so many words from one on are the first few of them again and again. */
        static boolean repeats(int[] row, int from, int length, int step) {
            if (from < 0 || step < 1 || from + length > row.length) {
                return false;
            }
            for (int i = from; i + step < from + length; i++) {
                if (row[i] != row[i + step]) {
                    return false;
                }
            }
            return true;
        }

        boolean sameTurned(int row) {
            int length = lengths[row];
            for (int i = 0; i < length / 2; i++) {
                if (wordAt(row, i) != wordAt(row, length - 1 - i)) {
                    return false;
                }
            }
            return true;
        }

        boolean sameShape(int row, int other) {
            if (lengths[row] != lengths[other]) {
                return false;
            }
            for (int i = 0; i < lengths[row]; i++) {
                for (int j = 0; j < i; j++) {
                    boolean same = wordAt(row, i) == wordAt(row, j);
                    if (same != (wordAt(other, i) == wordAt(other, j))) {
                        return false;
                    }
                }
            }
            return true;
        }
    }

    /** Reads the tape as a book. */
    private static final class BookReader {
        private static final int DEEPEST = 3;
        private static final int MOST_TIMES = 20;
        private static final int MOST_CAST = 60;

        private final Tape tape;
        private final Rules rules;
        private final int[] opened = new int[DEEPEST];
        private Book into;
        private boolean rulesTold;
        // of the row that is being read; one more than the longest stands for all that are too long
        private int length;

        BookReader(Tape tape) {
            this.tape = tape;
            rules = new Rules(tape);
        }

        /** Answers the fault, or 0. */
        int read(Book book) {
            into = book;
            into.clear();
            rules.clear();
            rulesTold = false;
            tape.begin();
            for (int i = 0; i <= Tape.MOST && tape.kind != Tape.END; i++) {
                boolean good;
                switch (tape.key) {
                    case Tape.KEY_WORD:
                        good = readWord();
                        break;
                    case Tape.KEY_CASTS:
                        good = readCasts();
                        break;
                    case Tape.KEY_ROW:
                        good = readRow();
                        break;
                    case Tape.KEY_AFTER:
                        good = readAfter();
                        break;
                    case Tape.KEY_RULES:
                        good = readRules();
                        break;
                    default:
                        good = tape.wrong(Tape.MISPLACED);
                        break;
                }
                if (!good) {
                    return tape.fault;
                }
            }
            into.countUses();
            into.findMeanings(rules);
            return 0;
        }

        private boolean readWord() {
            if (into.words >= WORDS) {
                return tape.wrong(Tape.TOO_MANY);
            }
            tape.next();
            if (!tape.isName()) {
                return tape.wrong(Tape.MISPLACED);
            }
            if (into.wordNamed(tape.name) != NONE) {
                return tape.wrong(Tape.TWICE);
            }
            into.names[into.words] = tape.name;
            tape.next();
            if (tape.key < Tape.KEY_ANY || tape.key > Tape.KEY_LESS) {
                return tape.wrong(Tape.MISPLACED);
            }
            into.kinds[into.words] = tape.key - Tape.KEY_ANY;
            into.words++;
            tape.next();
            return tape.takeEnd();
        }

        private boolean readCasts() {
            if (into.casts != 0) {
                return tape.wrong(Tape.TWICE);
            }
            tape.next();
            int stitches = tape.takeNumber(1, MOST_CAST);
            if (stitches == NONE) {
                return false;
            }
            into.casts = stitches;
            return tape.takeEnd();
        }

        private boolean readAfter() {
            tape.next();
            int row = tape.kind == Tape.NUMBER ? tape.number : NONE;
            if (row >= 0 && row < into.rows && row < ROWS && into.counts[row] != NONE) {
                return tape.wrong(Tape.TWICE);
            }
            row = tape.takeNumber(0, into.rows - 1);
            if (row < 0 || row >= ROWS) {
                return false;
            }
            if (tape.key != Tape.KEY_IS) {
                return tape.wrong(Tape.MISPLACED);
            }
            tape.next();
            int stitches = tape.takeNumber(0, MOST_TOLD);
            if (stitches == NONE) {
                return false;
            }
            into.counts[row] = stitches;
            return tape.takeEnd();
        }

        private boolean readRules() {
            if (rulesTold) {
                return tape.wrong(Tape.TWICE);
            }
            rulesTold = true;
            tape.next();
            return rules.read() && tape.takeEnd();
        }

        private boolean readRow() {
            if (into.rows >= ROWS) {
                return tape.wrong(Tape.TOO_MANY);
            }
            tape.next();
            length = 0;
            int depth = 0;
            boolean item = false;
            for (int i = 0; i <= Tape.MOST; i++) {
                if (item && depth == 0 && tape.isSign(';')) {
                    return endRow();
                }
                if (tape.isSign('(')) {
                    if (depth < 0 || depth >= DEEPEST) {
                        return tape.wrong(Tape.TOO_MANY);
                    }
                    opened[depth] = length;
                    depth++;
                    item = false;
                    tape.next();
                } else if (item && depth > 0 && tape.isSign(')')) {
                    depth--;
                    if (!readTimes(opened[depth])) {
                        return false;
                    }
                } else {
                    item = true;
                    if (!readNamed()) {
                        return false;
                    }
                }
            }
            return tape.wrong(Tape.MISPLACED);
        }

        private boolean endRow() {
            if (length > LONGEST) {
                return tape.wrong(Tape.TOO_MANY);
            }
            into.lengths[into.rows] = length;
            into.rows++;
            tape.next();
            return true;
        }

        /** Reads the end of a bracket: what stands there from a place on is to be there so often. */
        private boolean readTimes(int from) {
            tape.next();
            int times = tape.takeNumber(1, MOST_TIMES);
            int size = length - from;
            for (int i = size; i < size * times && length <= LONGEST; i++) {
                put(into.places[into.rows][length - size]);
            }
            return times != NONE;
        }

        private boolean readNamed() {
            int word = tape.takeName(into);
            if (word == NONE) {
                return false;
            }
            int times = 1;
            if (tape.kind == Tape.NUMBER) {
                times = tape.takeNumber(1, MOST_TIMES);
            }
            for (int i = 0; i < times; i++) {
                put(word);
            }
            return times != NONE;
        }

        private void put(int word) {
            if (length >= 0 && length < LONGEST) {
                into.places[into.rows][length] = word;
            }
            length = length < LONGEST ? length + 1 : LONGEST + 1;
        }
    }

    /** Lines of notes, and what comes of them if they are done from the begin of their book on. */
    private static final class Notes {
        private static final int MOST = 40;
        private static final int FAULTY = -2;

        int lines;
        boolean stale = true;
        int impossible;
        int stuck;
        int left;
        private final int[] deeds = new int[MOST];
        private final int[] slots = new int[MOST];
        private final int[] values = new int[MOST];
        private final Hand hand = new Hand();
        private Book about;
        private Tape tape;

        void clear() {
            lines = 0;
            stale = true;
        }

        /** Answers the fault, or 0. */
        int read(Tape from, Book book) {
            tape = from;
            about = book;
            clear();
            tape.begin();
            for (int i = 0; i <= Tape.MOST && tape.kind != Tape.END; i++) {
                if (!readLine()) {
                    return tape.fault;
                }
            }
            return 0;
        }

        private boolean readLine() {
            int deed = tape.key;
            if (deed < Tape.KEY_GUESS || deed > Tape.KEY_DROP) {
                return tape.wrong(Tape.MISPLACED);
            }
            if (lines < 0 || lines >= MOST) {
                return tape.wrong(Tape.TOO_MANY);
            }
            tape.next();
            boolean ofWord = deed == Tape.KEY_GUESS || deed == Tape.KEY_FORGET;
            int subject = ofWord ? tape.takeName(about) : tape.takeNumber(0, about.rows - 1);
            if (subject == NONE) {
                return false;
            }
            int value = readValue(deed);
            if (value == FAULTY) {
                return false;
            }
            deeds[lines] = deed;
            slots[lines] = ofWord ? subject : WORDS + subject;
            values[lines] = value;
            lines++;
            return tape.takeEnd();
        }

        private int readValue(int deed) {
            if (deed == Tape.KEY_TELL) {
                int stitches = tape.takeNumber(0, MOST_TOLD);
                return stitches == NONE ? FAULTY : stitches;
            }
            if (deed != Tape.KEY_GUESS) {
                return NONE;
            }
            int takes = tape.takeNumber(0, 2);
            int leaves = takes == NONE ? NONE : tape.takeNumber(0, 2);
            return leaves == NONE ? FAULTY : 3 * takes + leaves;
        }

        void judge(Book book, Shelf shelf) {
            hand.begin(book);
            impossible = NONE;
            stuck = NONE;
            left = shelf.fittingBy(hand);
            for (int i = 0; i < lines && i < MOST; i++) {
                if (canBe(i, book)) {
                    hand.put(slots[i], values[i]);
                    left = shelf.fittingBy(hand);
                } else if (impossible == NONE) {
                    impossible = i;
                }
                if (left == 0 && stuck == NONE) {
                    stuck = i;
                }
            }
            stale = false;
        }

        private boolean canBe(int i, Book book) {
            switch (deeds[i]) {
                case Tape.KEY_GUESS:
                    return book.means(slots[i], values[i]);
                case Tape.KEY_TELL:
                    return true;
                default:
                    return hand.at(slots[i]) != NONE;
            }
        }
    }

    /** What is guessed and which counts there are: a slot for each word, then one for each row. */
    private static final class Hand {
        private final int[] held = new int[WORDS + ROWS];

        Hand() {
            Arrays.fill(held, NONE);
        }

        void begin(Book book) {
            Arrays.fill(held, NONE);
            System.arraycopy(book.counts, 0, held, WORDS, ROWS);
        }

        void copy(Hand other) {
            System.arraycopy(other.held, 0, held, 0, held.length);
        }

        int at(int slot) {
            return slot >= 0 && slot < held.length ? held[slot] : NONE;
        }

        /** Answers what was there ahead. */
        int put(int slot, int value) {
            int ahead = at(slot);
            if (slot >= 0 && slot < held.length) {
                held[slot] = value;
            }
            return ahead;
        }

        int guessOf(int word) {
            return word >= 0 && word < WORDS ? held[word] : NONE;
        }

        int countOf(int row) {
            return row >= 0 && row < ROWS ? held[WORDS + row] : NONE;
        }

        int guessBits() {
            int bits = 0;
            for (int word = 0; word < WORDS; word++) {
                bits |= guessOf(word) != NONE ? 1 << word : 0;
            }
            return bits;
        }

        int countBits() {
            int bits = 0;
            for (int row = 0; row < ROWS; row++) {
                bits |= countOf(row) != NONE ? 1 << row : 0;
            }
            return bits;
        }

        boolean allGuessed(int words) {
            return Integer.bitCount(guessBits()) == words;
        }

        /** All that is guessed as a dictionary. */
        int packed() {
            int packed = 0;
            for (int word = 0; word < WORDS; word++) {
                packed |= Math.max(guessOf(word), 0) << 4 * word;
            }
            return packed;
        }

        boolean guesses(int packed) {
            for (int word = 0; word < WORDS; word++) {
                int guessed = guessOf(word);
                if (guessed != NONE && guessed != Shelf.meaningIn(packed, word)) {
                    return false;
                }
            }
            return true;
        }

        /** The rows behind which there are not as many as their counts tell, as bits. */
        int missed(int packed, Book book) {
            int bits = 0;
            for (int row = 0; row < book.rows; row++) {
                int count = countOf(row);
                if (count != NONE && count != book.leavesOf(row, packed)) {
                    bits |= 1 << row;
                }
            }
            return bits;
        }

        boolean agrees(int packed, Book book) {
            return guesses(packed) && missed(packed, book) == 0;
        }
    }

    /** What was done by hand last, each as what was in its slot ahead, the oldest one first. */
    private static final class Past {
        private static final int MOST = 16;

        int steps;
        private final int[] slots = new int[MOST];
        private final int[] values = new int[MOST];

        void keep(int slot, int value) {
            if (steps >= MOST) {
                System.arraycopy(slots, 1, slots, 0, MOST - 1);
                System.arraycopy(values, 1, values, 0, MOST - 1);
                steps = MOST - 1;
            }
            slots[steps] = slot;
            values[steps] = value;
            steps++;
        }

        boolean takeBack(Hand hand) {
            if (steps <= 0 || steps > MOST) {
                return false;
            }
            steps--;
            hand.put(slots[steps], values[steps]);
            return true;
        }
    }

    /**
     * The dictionaries of a book in the order of their numbers, each packed, with the rows
     * that do not go up by it in the bits from 16 on.
     */
    private static final class Shelf {
        private static final int MOST = 6561;
        private static final int DOWN = 16;

        boolean bookStale = true;
        boolean handStale = true;
        int many;
        int fitting;
        int[] all = new int[1];
        int[] fit = new int[1];
        private int[] upright = new int[1];
        private int standing;
        private final int[] digits = new int[WORDS];
        private Book book;

        static int meaningIn(int entry, int word) {
            return entry >> 4 * word & 15;
        }

        static int downIn(int entry) {
            return entry >> DOWN & 255;
        }

        void lay(Book laid) {
            book = laid;
            many = Math.min(book.dictionaries(), MOST);
            standing = 0;
            makeRoom();
            Arrays.fill(digits, 0);
            for (int i = 0; i < many && i < all.length; i++) {
                int packed = packDigits();
                int down = book.rowsDown(packed, 2);
                all[i] = packed | down << DOWN;
                if (down == 0 && standing < upright.length) {
                    upright[standing] = packed;
                    standing++;
                }
                nextDigits();
            }
            bookStale = false;
        }

        // small books are many, so each has what it needs; doubling, lest books that grow bit by bit make new arrays each
        private void makeRoom() {
            if (many > all.length) {
                int size = Math.min(Math.max(many, 2 * all.length), MOST);
                all = new int[size];
                fit = new int[size];
                upright = new int[size];
            }
        }

        private int packDigits() {
            int packed = 0;
            for (int word = 0; word < book.words && word < WORDS; word++) {
                packed |= book.meanings[word][digits[word]] << 4 * word;
            }
            return packed;
        }

        private void nextDigits() {
            for (int word = Math.min(book.words, WORDS) - 1; word >= 0; word--) {
                digits[word]++;
                if (digits[word] < book.sizes[word]) {
                    return;
                }
                digits[word] = 0;
            }
        }

        void choose(Hand hand) {
            fitting = 0;
            for (int i = 0; i < standing && i < upright.length; i++) {
                if (hand.agrees(upright[i], book) && fitting < fit.length) {
                    fit[fitting] = upright[i];
                    fitting++;
                }
            }
            handStale = false;
        }

        int fittingBy(Hand hand) {
            int sum = 0;
            for (int i = 0; i < standing && i < upright.length; i++) {
                sum += hand.agrees(upright[i], book) ? 1 : 0;
            }
            return sum;
        }

        /** The least set of counts without which one fits, of the smallest ones; NONE if there is none. */
        int fewestMissed(Hand hand) {
            int best = NONE;
            for (int i = 0; i < standing && i < upright.length; i++) {
                if (hand.guesses(upright[i])) {
                    int missed = hand.missed(upright[i], book);
                    best = best == NONE || isLess(missed, best) ? missed : best;
                }
            }
            return best;
        }

        private static boolean isLess(int set, int other) {
            int more = Integer.bitCount(set) - Integer.bitCount(other);
            return more < 0 || (more == 0 && set < other);
        }

        /** The rows whose count alone keeps a dictionary from fitting, as bits. */
        int neededCounts(Hand hand) {
            int bits = 0;
            for (int i = 0; i < standing && i < upright.length; i++) {
                int missed = hand.missed(upright[i], book);
                if (Integer.bitCount(missed) == 1 && hand.guesses(upright[i])) {
                    bits |= missed;
                }
            }
            return bits;
        }

        /** How many dictionaries would fit but for one row that does not go up. */
        int heldBackBy(int row, Hand hand) {
            int sum = 0;
            for (int i = 0; i < many && i < all.length; i++) {
                if (downIn(all[i]) == 1 << row && hand.agrees(all[i], book)) {
                    sum++;
                }
            }
            return sum;
        }

        boolean alwaysSame(int one, int other) {
            for (int i = 0; i < fitting && i < fit.length; i++) {
                if (meaningIn(fit[i], one) != meaningIn(fit[i], other)) {
                    return false;
                }
            }
            return true;
        }

        void tallyWord(int word, Tally tally) {
            tally.clear();
            for (int i = 0; i < fitting && i < fit.length; i++) {
                tally.add(meaningIn(fit[i], word));
            }
        }

        void tallyRow(int row, Tally tally) {
            tally.clear();
            for (int i = 0; i < fitting && i < fit.length; i++) {
                tally.add(book.leavesOf(row, fit[i]));
            }
        }
    }

    /** How often there was each of some numbers, stitches or meanings. */
    private static final class Tally {
        // each word of the longest row may leave two
        private final int[] times = new int[2 * LONGEST + 1];

        void clear() {
            Arrays.fill(times, 0);
        }

        void add(int number) {
            if (number >= 0 && number < times.length) {
                times[number]++;
            }
        }

        int of(int number) {
            return number >= 0 && number < times.length ? times[number] : 0;
        }

        int from(int number) {
            int sum = 0;
            for (int i = Math.max(number, 0); i < times.length; i++) {
                sum += times[i];
            }
            return sum;
        }

        int lowest() {
            for (int i = 0; i < times.length; i++) {
                if (times[i] != 0) {
                    return i;
                }
            }
            return NONE;
        }

        int highest() {
            for (int i = times.length - 1; i >= 0; i--) {
                if (times[i] != 0) {
                    return i;
                }
            }
            return NONE;
        }

        /** The one number that there was, or NONE. */
        int only() {
            int low = lowest();
            return low == highest() ? low : NONE;
        }

        int differing() {
            int sum = 0;
            for (int i = 0; i < times.length; i++) {
                sum += times[i] != 0 ? 1 : 0;
            }
            return sum;
        }

        int greatest() {
            int best = 0;
            for (int i = 0; i < times.length; i++) {
                best = Math.max(best, times[i]);
            }
            return best;
        }

        /** The meanings that there were, as bits. */
        int bits() {
            int bits = 0;
            for (int i = 0; i < MEANINGS; i++) {
                bits |= times[i] != 0 ? 1 << i : 0;
            }
            return bits;
        }
    }

    /** The words that may stand in a row by mistake: one other word there, and a dictionary fits. */
    private static final class Misprints {
        boolean stale = true;
        int ways;
        int row;
        int place;
        int word;
        // by rows, as bits: whether it helps to put one word in place of another one there
        private final int[] helps = new int[ROWS];
        private Book book;
        private Hand hand;

        void find(Book told, Shelf shelf, Hand by) {
            book = told;
            hand = by;
            Arrays.fill(helps, 0);
            for (int i = 0; i < shelf.many && i < shelf.all.length; i++) {
                int entry = shelf.all[i];
                if (Shelf.downIn(entry) != Book.MANY && hand.guesses(entry)) {
                    mendBy(entry);
                }
            }
            sumUp();
            stale = false;
        }

        private static int bit(int out, int in) {
            return 1 << out * WORDS + in;
        }

        /** Finds each change of a word by which this dictionary fits: only that row and the next one feel it. */
        private void mendBy(int entry) {
            int down = Shelf.downIn(entry);
            int missed = hand.missed(entry, book);
            for (int i = 0; i < book.rows && i < ROWS; i++) {
                if ((down & ~(3 << i)) == 0 && (missed & ~(1 << i)) == 0) {
                    mendRow(i, entry);
                }
            }
        }

        private void mendRow(int i, int entry) {
            int excess = book.excess(i, entry);
            int leaves = book.leavesOf(i, entry);
            for (int out = 0; out < book.words && out < WORDS; out++) {
                for (int in = 0; in < book.words && in < WORDS; in++) {
                    if (out == in || book.inRow[i][out] == 0 || (helps[i] & bit(out, in)) != 0) {
                        continue;
                    }
                    int from = Shelf.meaningIn(entry, out);
                    int to = Shelf.meaningIn(entry, in);
                    int left = leaves + to % 3 - from % 3;
                    boolean up = excess + to / 3 - from / 3 == 0;
                    if (up && isRight(i, left, entry)) {
                        helps[i] |= bit(out, in);
                    }
                }
            }
        }

        /** Whether so many stitches behind a row are as its count tells and as the next row takes. */
        private boolean isRight(int i, int left, int entry) {
            int count = hand.countOf(i);
            boolean last = i + 1 >= book.rows || i + 1 >= ROWS;
            return (count == NONE || count == left) && (last || book.takesOf(i + 1, entry) == left);
        }

        private void sumUp() {
            ways = 0;
            row = NONE;
            place = NONE;
            word = NONE;
            for (int i = 0; i < book.rows && i < ROWS; i++) {
                for (int j = 0; j < book.lengths[i]; j++) {
                    for (int in = 0; in < book.words && in < WORDS; in++) {
                        if ((helps[i] & bit(book.wordAt(i, j), in)) != 0) {
                            addWay(i, j, in);
                        }
                    }
                }
            }
        }

        private void addWay(int i, int j, int in) {
            if (ways == 0) {
                row = i;
                place = j;
                word = in;
            }
            ways++;
        }
    }

    /** The shortest way to tell a row. */
    private static final class Brief {
        private static final int DEEPEST = 3;
        private static final int MOST_TIMES = 20;

        // the fewest tokens for the words from one on, so many: with one bracket less around, and with as many as may be
        private int[] inner = new int[LONGEST * LONGEST];
        private int[] outer = new int[LONGEST * LONGEST];

        int fewest(int[] row, int length) {
            if (length < 1 || length > LONGEST || length > row.length) {
                return 0;
            }
            for (int depth = 0; depth <= DEEPEST; depth++) {
                int[] old = inner;
                inner = outer;
                outer = old;
                for (int size = 1; size <= length; size++) {
                    for (int from = 0; from + size <= length; from++) {
                        outer[index(from, size)] = best(row, from, size, depth);
                    }
                }
            }
            return outer[index(0, length)];
        }

        private static int index(int from, int size) {
            return from * LONGEST + size - 1;
        }

        private int best(int[] row, int from, int size, int depth) {
            int best = asOne(row, from, size, depth);
            for (int first = 1; first < size; first++) {
                int parted = outer[index(from, first)] + outer[index(from + first, size - first)];
                best = Math.min(best, parted);
            }
            return best;
        }

        /** The fewest tokens if the words are told as one item; far too many if they can't be. */
        private int asOne(int[] row, int from, int size, int depth) {
            if (size == 1) {
                return 1;
            }
            if (size <= MOST_TIMES && Book.repeats(row, from, size, 1)) {
                return 2;
            }
            int best = 4 * LONGEST;
            for (int step = 1; depth > 0 && step <= size / 2; step++) {
                boolean even = size % step == 0 && size / step <= MOST_TIMES;
                if (even && Book.repeats(row, from, size, step)) {
                    best = Math.min(best, inner[index(from, step)] + 3);
                }
            }
            return best;
        }
    }
}
