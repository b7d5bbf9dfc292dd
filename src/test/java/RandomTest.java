import java.util.NoSuchElementException;
import java.util.Random;

/** Runs of calls from fixed seeds, each answer against the one of the Model. */
public final class RandomTest {
    private static final int RUNS = 1500;
    private static final int THROWN = -777;
    private static final String[] NAMES = {"pp", "q", "takes", "abcdefgh", "zz"};
    private static final String[] KINDS = {"any", "even", "grows", "less"};
    private static final String[] FACTS = {"takes", "leaves", "uses", "which"};

    private final Checks checks = new Checks("RandomTest");
    private Random random;
    private ForeignKnit x;
    private Model y;
    private int run;
    private int words;
    private int rows;
    private int[][] secret;
    private int fitted;
    private int mended;
    private int read;

    public static void main(String[] args) {
        RandomTest test = new RandomTest();
        for (int run = 0; run < RUNS; run++) {
            test.go(run);
        }
        System.out.println("RandomTest: books without a fault " + test.read + ", answers of fits above 0 "
            + test.fitted + ", of misprints above 0 " + test.mended);
        test.checks.due("some books have no fault", test.read > RUNS, true);
        test.checks.due("some fit", test.fitted > RUNS / 2, true);
        test.checks.due("some misprints", test.mended > RUNS / 5, true);
        test.checks.end();
    }

    private void go(int number) {
        run = number;
        random = new Random(number);
        x = new ForeignKnit();
        y = new Model();
        words = 0;
        rows = 0;
        secret = new int[4][2];
        int books = 1 + random.nextInt(3);
        for (int i = 0; i < books && !checks.anyWrong(); i++) {
            readBook();
            compareAll();
            int calls = random.nextInt(60);
            for (int j = 0; j < calls && !checks.anyWrong(); j++) {
                call();
            }
            compareAll();
        }
    }

    private void due(String call, int got, int want) {
        checks.due("run " + run + ": " + call, got, want);
    }

    private void due(String call, boolean got, boolean want) {
        due(call, got ? 1 : 0, want ? 1 : 0);
    }

    // texts

    private void feed(String text) {
        for (int from = 0; from < text.length(); from += 24) {
            long[] packed = new long[3];
            for (int i = 0; i < 24; i++) {
                int sign = from + i < text.length() ? text.charAt(from + i) : 0;
                packed[i / 8] = packed[i / 8] << 8 | sign;
            }
            due("feed", x.feed(packed[0], packed[1], packed[2]), y.feed(packed[0], packed[1], packed[2]));
        }
    }

    private String spoilt(String text) {
        StringBuilder spoilt = new StringBuilder(text);
        String signs = "()<=+-*; abz019\n\t#A";
        String[] tokens = {"not ", "( ", ") ", "row ", "pp ", "20 ", "0 ", "word ", "; ", "is ", "99 ", "casts ", "12345 "};
        int changes = 1 + random.nextInt(2);
        for (int i = 0; i < changes && spoilt.length() > 0; i++) {
            int at = random.nextInt(spoilt.length());
            switch (random.nextInt(5)) {
                case 0 -> spoilt.deleteCharAt(at);
                case 1 -> spoilt.setCharAt(at, signs.charAt(random.nextInt(signs.length())));
                case 2 -> spoilt.setLength(at);
                case 3 -> {
                    int token = spoilt.indexOf(" ", at) + 1;
                    spoilt.insert(token, tokens[random.nextInt(tokens.length)]);
                }
                default -> {
                    int from = spoilt.indexOf(" ", at) + 1;
                    int to = spoilt.indexOf(" ", from) + 1;
                    if (to > from) {
                        spoilt.delete(from, to);
                    }
                }
            }
        }
        return spoilt.toString();
    }

    private void readBook() {
        String text = bookText();
        if (random.nextInt(3) == 0) {
            for (int i = 0; i < 6; i++) {
                feed(spoilt(text));
                int fault = y.book();
                due("book", x.book(), fault);
                read += fault == 0 ? 1 : 0;
            }
        }
        feed(text);
        int fault = y.book();
        due("book of " + text, x.book(), fault);
        read += fault == 0 ? 1 : 0;
        words = y.count(0);
        rows = y.count(1);
    }

    private String bookText() {
        StringBuilder text = new StringBuilder();
        words = random.nextInt(20) == 0 ? 0 : 1 + random.nextInt(4);
        String rules = random.nextInt(2) == 0 ? "" : "rules " + all(0) + " ; ";
        if (random.nextBoolean()) {
            text.append(rules);
            rules = "";
        }
        for (int word = 0; word < words; word++) {
            int kind = random.nextInt(4);
            text.append("word ").append(NAMES[word]).append(' ').append(KINDS[kind]).append(" ; ");
            int takes = kind == 3 ? 1 + random.nextInt(2) : random.nextInt(kind == 2 ? 2 : 3);
            int leaves = kind == 0 ? random.nextInt(3) : kind == 1 ? takes : kind == 2 ? 2 : random.nextInt(takes);
            secret[word] = new int[] {takes, leaves};
        }
        int there = random.nextInt(8) == 0 ? 0 : 1 + random.nextInt(random.nextInt(4) == 0 ? 60 : 12);
        if (there > 0) {
            text.append("casts ").append(there).append(" ; ");
        }
        int most = words == 0 ? 0 : random.nextInt(9);
        for (int row = 0; row < most; row++) {
            there = addRow(text, there);
            if (random.nextInt(4) == 0) {
                text.append("after ").append(row).append(" is ")
                    .append(random.nextInt(4) == 0 ? random.nextInt(9) : Math.min(there, 99)).append(" ; ");
            }
        }
        text.append(rules);
        return random.nextInt(4) == 0 ? text.toString().replace(" ", random.nextBoolean() ? "\n" : "  ") : text.toString();
    }

    /** Adds a row, mostly one that goes up by the secret dictionary; answers what it leaves. */
    private int addRow(StringBuilder text, int there) {
        int took = 0;
        int left = 0;
        text.append("row ");
        boolean shaped = random.nextInt(4) == 0;
        int items = 0;
        for (int tries = 0; tries < 40 && (items == 0 || took < there) && items < 12; tries++) {
            int word = random.nextInt(words);
            int times = random.nextInt(3) == 0 ? 1 + random.nextInt(5) : 1;
            int brackets = shaped && random.nextInt(3) == 0 ? 2 + random.nextInt(3) : 1;
            int takes = secret[word][0] * times * brackets;
            if (took + takes > there && random.nextInt(20) != 0 && tries < 35) {
                continue;
            }
            took += takes;
            left += secret[word][1] * times * brackets;
            items++;
            String item = NAMES[word] + " " + (times == 1 ? "" : times + " ");
            text.append(brackets == 1 ? item : "( " + item + ") " + brackets + " ");
        }
        if (random.nextInt(12) == 0) {
            int deep = random.nextInt(4);
            text.append("( ".repeat(deep)).append(NAMES[0]).append(' ').append(NAMES[words - 1]).append(" 2 ");
            for (int i = 0; i < deep; i++) {
                text.append(") ").append(1 + random.nextInt(3)).append(' ');
            }
        }
        text.append("; ");
        return left;
    }

    private String all(int depth) {
        String text = test(depth);
        for (int i = random.nextInt(3); i > 0; i--) {
            text += (random.nextBoolean() ? " and " : " or ") + test(depth);
        }
        return text;
    }

    private String test(int depth) {
        int which = random.nextInt(4);
        return sum(depth) + (which == 0 ? "" : (which == 1 ? " = " : " < ") + sum(depth));
    }

    private String sum(int depth) {
        String text = product(depth);
        for (int i = random.nextInt(4) - 1; i > 0; i--) {
            text += (random.nextBoolean() ? " + " : " - ") + product(depth);
        }
        return text;
    }

    private String product(int depth) {
        String text = part(depth);
        for (int i = random.nextInt(4) - 2; i > 0; i--) {
            text += " * " + part(depth);
        }
        return text;
    }

    private String part(int depth) {
        switch (random.nextInt(depth > 2 && random.nextInt(20) != 0 || depth > 5 ? 6 : 8)) {
            case 0:
                return "" + random.nextInt(4);
            case 1:
                return random.nextInt(5) == 0 ? "9999" : "1";
            case 2:
            case 3:
            case 4:
            case 5:
                return FACTS[random.nextInt(4)];
            case 6:
                return "not " + part(depth + 1);
            default:
                return "( " + all(depth + 1) + " )";
        }
    }

    private void readNotes() {
        StringBuilder text = new StringBuilder();
        int lines = random.nextInt(random.nextInt(8) == 0 ? 45 : 12);
        for (int i = 0; i < lines; i++) {
            String name = words == 0 ? "none" : NAMES[random.nextInt(words)];
            int row = random.nextInt(Math.max(rows, 1));
            switch (random.nextInt(4)) {
                case 0 -> {
                    int word = random.nextInt(Math.max(words, 1));
                    boolean good = random.nextBoolean();
                    text.append("guess ").append(words == 0 ? "none" : NAMES[word]).append(' ')
                        .append(good ? secret[word][0] : random.nextInt(3)).append(' ')
                        .append(good ? secret[word][1] : random.nextInt(3));
                }
                case 1 -> text.append("forget ").append(name);
                case 2 -> text.append("tell ").append(row).append(' ').append(random.nextInt(8));
                default -> text.append("drop ").append(row);
            }
            text.append(" ; ");
        }
        feed(random.nextInt(4) == 0 ? spoilt(text.toString()) : text.toString());
        due("notes of " + text, x.notes(), y.notes());
    }

    // calls

    private int any(int good) {
        return random.nextInt(good + 3) - 1;
    }

    private void call() {
        switch (random.nextInt(12)) {
            case 0, 1 -> guess();
            case 2 -> {
                int word = any(words);
                due("forget(" + word + ")", x.forget(word), y.forget(word));
            }
            case 3 -> tell();
            case 4 -> {
                int row = any(rows);
                due("drop(" + row + ")", x.drop(row), y.drop(row));
            }
            case 5 -> due("undo", x.undo(), y.undo());
            case 6 -> {
                int mark = any(4);
                boolean back = random.nextBoolean();
                due("mark(" + mark + ", " + back + ")", x.mark(mark, back), y.mark(mark, back));
            }
            case 7 -> readNotes();
            case 8 -> rests();
            case 9 -> drafts();
            default -> askOne();
        }
    }

    private void guess() {
        int word = any(words);
        boolean good = word >= 0 && word < words && random.nextInt(3) != 0;
        int takes = good ? secret[word][0] : any(2);
        int leaves = good ? secret[word][1] : any(2);
        due("guess(" + word + ", " + takes + ", " + leaves + ")", x.guess(word, takes, leaves),
            y.guess(word, takes, leaves));
    }

    private void tell() {
        int row = any(rows);
        int stitches = random.nextInt(4) == 0 ? any(99) : Math.max(y.most(row), 0) + random.nextInt(2);
        due("tell(" + row + ", " + stitches + ")", x.tell(row, stitches), y.tell(row, stitches));
    }

    private void rests() {
        int lose = any(9);
        int casts = any(9) / (1 + random.nextInt(3));
        int waits = any(9) / (1 + random.nextInt(3));
        int what = random.nextInt(6) - 2;
        int got;
        try {
            got = x.rests(lose, casts, waits, what);
        } catch (NoSuchElementException e) {
            got = THROWN;
        }
        int want;
        try {
            want = y.rests(lose, casts, waits, what);
        } catch (NoSuchElementException e) {
            want = THROWN;
        }
        due("rests(" + lose + ", " + casts + ", " + waits + ", " + what + ")", got, want);
    }

    private void drafts() {
        int seed = random.nextInt(20) == 0 ? any(9998) : random.nextInt(10000);
        int many = random.nextInt(10) == 0 ? any(99) : 1 + random.nextInt(99);
        for (int what = -1; what <= 3; what++) {
            due("drafts(" + seed + ", " + many + ", " + what + ")", x.drafts(seed, many, what), y.drafts(seed, many, what));
        }
    }

    private void askOne() {
        switch (random.nextInt(6)) {
            case 0 -> due("fits", x.fits(), y.fits());
            case 1 -> due("ask", x.ask(), y.ask());
            case 2 -> due("learn", x.learn(), y.learn());
            case 3 -> due("drops", x.drops(), y.drops());
            case 4 -> due("bad", x.bad(), y.bad());
            default -> slips();
        }
    }

    private void slips() {
        if (y.work() < 400000) {
            int ways = y.misprints();
            mended += ways > 0 ? 1 : 0;
            due("misprints", x.misprints(), ways);
            for (int what = -1; what <= 3; what++) {
                due("misprint(" + what + ")", x.misprint(what), y.misprint(what));
            }
        }
    }

    private void compareAll() {
        int fits = y.fits();
        fitted += fits > 0 ? 1 : 0;
        due("fits", x.fits(), fits);
        for (int what = -1; what <= 9; what++) {
            due("count(" + what + ")", x.count(what), y.count(what));
        }
        for (int what = -1; what <= 3; what++) {
            due("judged(" + what + ")", x.judged(what), y.judged(what));
        }
        for (int word = -1; word <= words; word++) {
            compareWord(word, fits);
        }
        for (int row = -1; row <= rows; row++) {
            compareRow(row);
        }
        due("fixed", x.fixed(), y.fixed());
        due("open", x.open(), y.open());
        due("ask", x.ask(), y.ask());
        due("learn", x.learn(), y.learn());
        due("bad", x.bad(), y.bad());
        due("off", x.off(), y.off());
        due("twins", x.twins(), y.twins());
        due("idle", x.idle(), y.idle());
        due("spare", x.spare(), y.spare());
        due("drops", x.drops(), y.drops());
        slips();
        drafts();
        compareCounts();
    }

    /** With some counts told, all but by chance. */
    private void compareCounts() {
        for (int i = 0; i < 4 && rows > 0; i++) {
            int told = 2 + random.nextInt(3);
            for (int j = 0; j < told; j++) {
                int row = random.nextInt(rows);
                int stitches = y.least(row) < 0 ? random.nextInt(6)
                    : random.nextBoolean() ? y.least(row) : Math.min(y.most(row), 99);
                due("tell", x.tell(row, stitches), y.tell(row, stitches));
            }
            due("drops", x.drops(), y.drops());
            due("spare", x.spare(), y.spare());
            for (int j = 0; j < told; j++) {
                due("undo", x.undo(), y.undo());
            }
        }
    }

    private void compareWord(int word, int fits) {
        for (int what = -1; what <= 4; what++) {
            due("term(" + word + ", " + what + ")", x.term(word, what), y.term(word, what));
        }
        int[] numbers = {-1, 0, fits / 2, fits - 1, fits};
        for (int number : numbers) {
            due("entry(" + number + ", " + word + ")", x.entry(number, word), y.entry(number, word));
        }
        due("could(" + word + ")", x.could(word), y.could(word));
        due("sure(" + word + ")", x.sure(word), y.sure(word));
        int takes = any(2);
        int leaves = any(2);
        due("with(" + word + ", " + takes + ", " + leaves + ")", x.with(word, takes, leaves), y.with(word, takes, leaves));
    }

    private void compareRow(int row) {
        for (int what = -1; what <= 4; what++) {
            due("line(" + row + ", " + what + ")", x.line(row, what), y.line(row, what));
        }
        for (int i = -1; i <= Math.max(y.line(row, 0), 0); i++) {
            due("there(" + row + ", " + i + ")", x.there(row, i), y.there(row, i));
        }
        due("least(" + row + ")", x.least(row), y.least(row));
        due("most(" + row + ")", x.most(row), y.most(row));
        due("kinds(" + row + ")", x.kinds(row), y.kinds(row));
        due("behind(" + row + ")", x.behind(row), y.behind(row));
        due("turned(" + row + ")", x.turned(row), y.turned(row));
        due("strict(" + row + ")", x.strict(row), y.strict(row));
        for (int other = -1; other <= rows; other++) {
            due("alike(" + row + ", " + other + ")", x.alike(row, other), y.alike(row, other));
        }
        for (int i = 0; i < 3; i++) {
            int stitches = i == 0 ? any(99) : random.nextInt(20);
            due("has(" + row + ", " + stitches + ")", x.has(row, stitches), y.has(row, stitches));
            due("chance(" + row + ", " + stitches + ")", x.chance(row, stitches), y.chance(row, stitches));
        }
    }
}
