import java.util.ArrayDeque;
import java.util.ArrayList;
import java.util.Arrays;
import java.util.Collections;
import java.util.HashMap;
import java.util.List;
import java.util.Map;
import java.util.NoSuchElementException;
import java.util.regex.Matcher;
import java.util.regex.Pattern;

/** All that ForeignKnit does, in the plainest way: all dictionaries in a list, all rows gone through for each answer. */
final class Model {
    private static final List<String> KINDS = List.of("any", "even", "grows", "less");
    private static final List<String> RESERVED = List.of("word", "casts", "row", "after", "is", "rules", "guess",
        "forget", "tell", "drop", "any", "even", "grows", "less", "not", "and", "or");

    private record Token(String text, int place) {
        boolean name() {
            return text.matches("[a-z]{1,8}") && !RESERVED.contains(text);
        }

        boolean number() {
            return text.matches("[0-9]{1,4}");
        }
    }

    private static final class Fault extends Exception {
        private static final long serialVersionUID = 1;
        final int number;

        Fault(int kind, Token token) {
            number = kind + 16 * token.place;
        }
    }

    private interface Rule {
        int of(int takes, int leaves, int uses, int which);
    }

    /** A book, as it is told. */
    private static final class Told {
        final List<String> names = new ArrayList<>();
        final List<Integer> kinds = new ArrayList<>();
        final List<List<Integer>> rows = new ArrayList<>();
        final Map<Integer, Integer> counts = new HashMap<>();
        final List<List<int[]>> meanings = new ArrayList<>();
        final List<int[][]> all = new ArrayList<>();
        int casts;
        Rule rules;

        int uses(int word) {
            int sum = 0;
            for (List<Integer> row : rows) {
                sum += Collections.frequency(row, word);
            }
            return sum;
        }

        void finish() {
            for (int word = 0; word < names.size(); word++) {
                List<int[]> some = new ArrayList<>();
                for (int takes = 0; takes <= 2; takes++) {
                    for (int leaves = 0; leaves <= 2; leaves++) {
                        int more = Integer.signum(leaves - takes);
                        int kind = kinds.get(word);
                        boolean good = kind == 0 || kind == 1 && more == 0 || kind == 2 && more > 0 || kind == 3 && more < 0;
                        if (good && (rules == null || rules.of(takes, leaves, uses(word), word) != 0)) {
                            some.add(new int[] {takes, leaves});
                        }
                    }
                }
                meanings.add(some);
            }
            addAll(new int[names.size()][], 0);
        }

        private void addAll(int[][] begun, int word) {
            if (word == names.size()) {
                all.add(begun.clone());
                return;
            }
            for (int[] meaning : meanings.get(word)) {
                begun[word] = meaning;
                addAll(begun, word + 1);
            }
        }
    }

    /** What is done by hand. */
    private static final class State {
        final Map<Integer, int[]> guessed = new HashMap<>();
        final Map<Integer, Integer> counts = new HashMap<>();

        State copy() {
            State other = new State();
            other.guessed.putAll(guessed);
            other.counts.putAll(counts);
            return other;
        }
    }

    private String tape = "";
    private Told told = new Told();
    private State state = new State();
    private List<String[]> noted = new ArrayList<>();
    private final ArrayDeque<State> past = new ArrayDeque<>();
    private final State[] marks = new State[4];
    private List<Token> tokens;
    private int next;

    Model() {
        told.finish();
    }

    int feed(long a, long b, long c) {
        for (long eight : new long[] {a, b, c}) {
            for (byte sign : java.nio.ByteBuffer.allocate(8).putLong(eight).array()) {
                if ((sign == 10 || sign >= 32 && sign < 127) && tape.length() < 1000) {
                    tape += (char) sign;
                }
            }
        }
        return tape.length();
    }

    // the tape

    private void cut() {
        tokens = new ArrayList<>();
        Matcher found = Pattern.compile("[a-z]+|[0-9]+|[^ \n]").matcher(tape);
        while (found.find()) {
            tokens.add(new Token(found.group(), found.start()));
        }
        tokens.add(new Token("", tape.length()));
        next = 0;
        tape = "";
    }

    private Token look() {
        return tokens.get(next);
    }

    private Token take() {
        return tokens.get(next++);
    }

    private boolean at(String text) {
        return look().text.equals(text);
    }

    private void expect(String text) throws Fault {
        if (!at(text)) {
            throw new Fault(1, look());
        }
        take();
    }

    private int number(int low, int high) throws Fault {
        Token token = look();
        if (!token.number()) {
            throw new Fault(1, token);
        }
        int number = Integer.parseInt(token.text);
        if (number < low || number > high) {
            throw new Fault(4, token);
        }
        take();
        return number;
    }

    private int name(Told of) throws Fault {
        Token token = look();
        if (!token.name()) {
            throw new Fault(1, token);
        }
        if (!of.names.contains(token.text)) {
            throw new Fault(2, token);
        }
        take();
        return of.names.indexOf(token.text);
    }

    int book() {
        cut();
        Told read = new Told();
        boolean castsTold = false;
        try {
            while (!at("")) {
                Token first = take();
                switch (first.text) {
                    case "word" -> readWord(read, first);
                    case "casts" -> {
                        if (castsTold) {
                            throw new Fault(3, first);
                        }
                        read.casts = number(1, 60);
                        castsTold = true;
                        expect(";");
                    }
                    case "row" -> readRow(read, first);
                    case "after" -> readAfter(read);
                    case "rules" -> {
                        if (read.rules != null) {
                            throw new Fault(3, first);
                        }
                        read.rules = readRules(0);
                        expect(";");
                    }
                    default -> throw new Fault(1, first);
                }
            }
        } catch (Fault fault) {
            return fault.number;
        }
        read.finish();
        told = read;
        state = new State();
        state.counts.putAll(read.counts);
        noted = new ArrayList<>();
        past.clear();
        Arrays.fill(marks, null);
        return 0;
    }

    private void readWord(Told read, Token first) throws Fault {
        if (read.names.size() == 4) {
            throw new Fault(5, first);
        }
        if (!look().name()) {
            throw new Fault(1, look());
        }
        if (read.names.contains(look().text)) {
            throw new Fault(3, look());
        }
        String name = take().text;
        if (!KINDS.contains(look().text)) {
            throw new Fault(1, look());
        }
        read.names.add(name);
        read.kinds.add(KINDS.indexOf(take().text));
        expect(";");
    }

    private void readAfter(Told read) throws Fault {
        Token row = look();
        int number = number(0, read.rows.size() - 1);
        if (read.counts.containsKey(number)) {
            throw new Fault(3, row);
        }
        expect("is");
        read.counts.put(number, number(0, 99));
        expect(";");
    }

    private void readRow(Told read, Token first) throws Fault {
        if (read.rows.size() == 8) {
            throw new Fault(5, first);
        }
        List<Integer> row = readItems(read, 0);
        if (at(";") && row.size() > 60) {
            throw new Fault(5, look());
        }
        expect(";");
        read.rows.add(row);
    }

    private List<Integer> readItems(Told read, int depth) throws Fault {
        List<Integer> words = new ArrayList<>();
        do {
            List<Integer> item;
            int times = 1;
            if (at("(")) {
                if (depth == 3) {
                    throw new Fault(5, look());
                }
                take();
                item = readItems(read, depth + 1);
                expect(")");
                times = number(1, 20);
            } else {
                item = List.of(name(read));
                if (look().number()) {
                    times = number(1, 20);
                }
            }
            for (int i = 0; i < times && words.size() < 100; i++) {
                words.addAll(item);
            }
        } while (at("(") || look().name());
        return words;
    }

    private Rule readRules(int depth) throws Fault {
        Rule left = readTest(depth);
        while (at("and") || at("or")) {
            boolean and = take().text.equals("and");
            Rule one = left;
            Rule other = readTest(depth);
            left = (t, l, u, w) -> {
                boolean a = one.of(t, l, u, w) != 0;
                boolean b = other.of(t, l, u, w) != 0;
                return (and ? a && b : a || b) ? 1 : 0;
            };
        }
        return left;
    }

    private Rule readTest(int depth) throws Fault {
        Rule left = readSum(depth);
        if (!at("<") && !at("=")) {
            return left;
        }
        boolean less = take().text.equals("<");
        Rule right = readSum(depth);
        return (t, l, u, w) -> {
            int order = Integer.compare(left.of(t, l, u, w), right.of(t, l, u, w));
            return (less ? order < 0 : order == 0) ? 1 : 0;
        };
    }

    private Rule readSum(int depth) throws Fault {
        Rule left = readProduct(depth);
        while (at("+") || at("-")) {
            int sign = take().text.equals("+") ? 1 : -1;
            Rule one = left;
            Rule other = readProduct(depth);
            left = (t, l, u, w) -> one.of(t, l, u, w) + sign * other.of(t, l, u, w);
        }
        return left;
    }

    private Rule readProduct(int depth) throws Fault {
        Rule left = readPart(depth);
        while (at("*")) {
            take();
            Rule one = left;
            Rule other = readPart(depth);
            left = (t, l, u, w) -> one.of(t, l, u, w) * other.of(t, l, u, w);
        }
        return left;
    }

    private Rule readPart(int depth) throws Fault {
        Token token = look();
        boolean fact = List.of("takes", "leaves", "uses", "which").contains(token.text);
        if (!token.number() && !fact && !at("not") && !at("(")) {
            throw new Fault(1, token);
        }
        if (depth == 5) {
            throw new Fault(5, token);
        }
        take();
        switch (token.text) {
            case "takes":
                return (t, l, u, w) -> t;
            case "leaves":
                return (t, l, u, w) -> l;
            case "uses":
                return (t, l, u, w) -> u;
            case "which":
                return (t, l, u, w) -> w;
            case "not":
                Rule part = readPart(depth + 1);
                return (t, l, u, w) -> part.of(t, l, u, w) == 0 ? 1 : 0;
            case "(":
                Rule inner = readRules(depth + 1);
                expect(")");
                return inner;
            default:
                int number = Integer.parseInt(token.text);
                return (t, l, u, w) -> number;
        }
    }

    int notes() {
        cut();
        List<String[]> read = new ArrayList<>();
        try {
            while (!at("")) {
                Token first = take();
                if (!List.of("guess", "forget", "tell", "drop").contains(first.text)) {
                    throw new Fault(1, first);
                }
                if (read.size() == 40) {
                    throw new Fault(5, first);
                }
                String[] line = {first.text, "", "", ""};
                boolean word = first.text.equals("guess") || first.text.equals("forget");
                line[1] += word ? name(told) : number(0, told.rows.size() - 1);
                if (first.text.equals("guess")) {
                    line[2] += number(0, 2);
                    line[3] += number(0, 2);
                } else if (first.text.equals("tell")) {
                    line[2] += number(0, 99);
                }
                expect(";");
                read.add(line);
            }
        } catch (Fault fault) {
            return fault.number;
        }
        noted = read;
        return 0;
    }

    // by hand

    private boolean word(int word) {
        return word >= 0 && word < told.names.size();
    }

    private boolean row(int row) {
        return row >= 0 && row < told.rows.size();
    }

    private static int code(int[] meaning) {
        return meaning == null ? -1 : 3 * meaning[0] + meaning[1];
    }

    private boolean means(int word, int takes, int leaves) {
        for (int[] meaning : told.meanings.get(word)) {
            if (meaning[0] == takes && meaning[1] == leaves) {
                return true;
            }
        }
        return false;
    }

    private void remember() {
        past.addLast(state.copy());
        if (past.size() > 16) {
            past.removeFirst();
        }
    }

    int term(int word, int what) {
        if (!word(word) || what < 0 || what > 3) {
            return -2;
        }
        return new int[] {told.kinds.get(word), code(state.guessed.get(word)), told.meanings.get(word).size(),
            told.uses(word)}[what];
    }

    int line(int row, int what) {
        if (!row(row) || what < 0 || what > 3) {
            return -2;
        }
        List<Integer> words = told.rows.get(row);
        switch (what) {
            case 0:
                return words.size();
            case 1:
                return state.counts.getOrDefault(row, -1);
            case 2:
                return beat(words);
            default:
                return brief(words, 0, new HashMap<>());
        }
    }

    private static int beat(List<Integer> words) {
        for (int size = 1; ; size++) {
            List<Integer> again = new ArrayList<>();
            while (again.size() < words.size()) {
                again.addAll(words.subList(0, size));
            }
            if (again.equals(words)) {
                return size;
            }
        }
    }

    /** By what the first item is, and the rest behind it. */
    private static int brief(List<Integer> words, int depth, Map<String, Integer> known) {
        if (words.isEmpty()) {
            return 0;
        }
        String key = depth + ":" + words;
        Integer told = known.get(key);
        if (told != null) {
            return told;
        }
        int best = Integer.MAX_VALUE;
        for (int size = 1; size <= words.size(); size++) {
            List<Integer> unit = words.subList(0, size);
            int inner = -1;
            for (int times = 1; times <= 20 && times * size <= words.size(); times++) {
                if (!words.subList((times - 1) * size, times * size).equals(unit)) {
                    break;
                }
                int rest = brief(words.subList(times * size, words.size()), depth, known);
                if (size == 1) {
                    best = Math.min(best, (times == 1 ? 1 : 2) + rest);
                } else if (depth < 3 && times > 1) {
                    inner = inner < 0 ? brief(unit, depth + 1, known) : inner;
                    best = Math.min(best, inner + 3 + rest);
                }
            }
        }
        known.put(key, best);
        return best;
    }

    int there(int row, int i) {
        return row(row) && i >= 0 && i < told.rows.get(row).size() ? told.rows.get(row).get(i) : -1;
    }

    int guess(int word, int takes, int leaves) {
        if (!word(word) || !means(word, takes, leaves)) {
            return -2;
        }
        remember();
        return code(state.guessed.put(word, new int[] {takes, leaves}));
    }

    int forget(int word) {
        if (!state.guessed.containsKey(word)) {
            return -1;
        }
        remember();
        return code(state.guessed.remove(word));
    }

    int tell(int row, int stitches) {
        if (!row(row) || stitches < 0 || stitches > 99) {
            return -2;
        }
        remember();
        Integer ahead = state.counts.put(row, stitches);
        return ahead == null ? -1 : ahead;
    }

    int drop(int row) {
        if (!state.counts.containsKey(row)) {
            return -1;
        }
        remember();
        return state.counts.remove(row);
    }

    boolean undo() {
        if (past.isEmpty()) {
            return false;
        }
        state = past.removeLast();
        return true;
    }

    boolean mark(int mark, boolean back) {
        if (mark < 0 || mark > 3 || back && marks[mark] == null) {
            return false;
        }
        if (back) {
            state = marks[mark].copy();
            past.clear();
        } else {
            marks[mark] = state.copy();
        }
        return true;
    }

    // dictionaries

    private static int behind(List<Integer> row, int[][] by) {
        int sum = 0;
        for (int word : row) {
            sum += by[word][1];
        }
        return sum;
    }

    private static int taken(List<Integer> row, int[][] by) {
        int sum = 0;
        for (int word : row) {
            sum += by[word][0];
        }
        return sum;
    }

    /** Whether it fits, the row of that number let go up or not. */
    private static boolean fits(List<List<Integer>> rows, int casts, State by, int[][] dictionary, int let) {
        for (Map.Entry<Integer, int[]> guess : by.guessed.entrySet()) {
            if (!Arrays.equals(dictionary[guess.getKey()], guess.getValue())) {
                return false;
            }
        }
        int there = casts;
        for (int row = 0; row < rows.size(); row++) {
            if (taken(rows.get(row), dictionary) != there && row != let) {
                return false;
            }
            there = behind(rows.get(row), dictionary);
            if (by.counts.getOrDefault(row, there) != there) {
                return false;
            }
        }
        return true;
    }

    private List<int[][]> fitting(State by, int let) {
        List<int[][]> some = new ArrayList<>();
        for (int[][] dictionary : told.all) {
            if (fits(told.rows, told.casts, by, dictionary, let)) {
                some.add(dictionary);
            }
        }
        return some;
    }

    private List<int[][]> fitting() {
        return fitting(state, -1);
    }

    int judged(int what) {
        if (what < 0 || what > 2) {
            return -2;
        }
        State by = new State();
        by.counts.putAll(told.counts);
        int impossible = -1;
        int stuck = -1;
        for (int i = 0; i < noted.size(); i++) {
            String[] line = noted.get(i);
            int of = Integer.parseInt(line[1]);
            boolean can = true;
            switch (line[0]) {
                case "guess":
                    int takes = Integer.parseInt(line[2]);
                    int leaves = Integer.parseInt(line[3]);
                    can = means(of, takes, leaves);
                    if (can) {
                        by.guessed.put(of, new int[] {takes, leaves});
                    }
                    break;
                case "forget":
                    can = by.guessed.remove(of) != null;
                    break;
                case "tell":
                    by.counts.put(of, Integer.parseInt(line[2]));
                    break;
                default:
                    can = by.counts.remove(of) != null;
                    break;
            }
            impossible = !can && impossible < 0 ? i : impossible;
            if (stuck < 0 && fitting(by, -1).isEmpty()) {
                stuck = i;
            }
        }
        return new int[] {impossible, stuck, fitting(by, -1).size()}[what];
    }

    int fits() {
        return fitting().size();
    }

    int entry(int number, int word) {
        List<int[][]> some = fitting();
        return word(word) && number >= 0 && number < some.size() ? code(some.get(number)[word]) : -1;
    }

    private int[] timesOfWord(int word) {
        int[] times = new int[9];
        for (int[][] dictionary : fitting()) {
            times[code(dictionary[word])]++;
        }
        return times;
    }

    private int[] timesOfRow(int row) {
        int[] times = new int[121];
        for (int[][] dictionary : fitting()) {
            times[behind(told.rows.get(row), dictionary)]++;
        }
        return times;
    }

    private static List<Integer> present(int[] times) {
        List<Integer> some = new ArrayList<>();
        for (int i = 0; i < times.length; i++) {
            if (times[i] > 0) {
                some.add(i);
            }
        }
        return some;
    }

    int could(int word) {
        if (!word(word)) {
            return -1;
        }
        int bits = 0;
        for (int meaning : present(timesOfWord(word))) {
            bits += 1 << meaning;
        }
        return bits;
    }

    int sure(int word) {
        if (!word(word)) {
            return -1;
        }
        List<Integer> some = present(timesOfWord(word));
        return some.size() == 1 ? some.get(0) : -1;
    }

    int fixed() {
        int bits = 0;
        for (int word = 0; word < told.names.size(); word++) {
            bits += sure(word) >= 0 ? 1 << word : 0;
        }
        return bits;
    }

    int with(int word, int takes, int leaves) {
        boolean good = word(word) && takes >= 0 && takes <= 2 && leaves >= 0 && leaves <= 2;
        return good ? timesOfWord(word)[3 * takes + leaves] : -1;
    }

    int least(int row) {
        List<Integer> some = row(row) ? present(timesOfRow(row)) : List.of();
        return some.isEmpty() ? -1 : some.get(0);
    }

    int most(int row) {
        List<Integer> some = row(row) ? present(timesOfRow(row)) : List.of();
        return some.isEmpty() ? -1 : some.get(some.size() - 1);
    }

    int kinds(int row) {
        return row(row) ? present(timesOfRow(row)).size() : -1;
    }

    int open() {
        int bits = 0;
        for (int row = 0; row < told.rows.size(); row++) {
            bits += least(row) != most(row) ? 1 << row : 0;
        }
        return bits;
    }

    int has(int row, int stitches) {
        return row(row) && stitches >= 0 && stitches <= 99 ? timesOfRow(row)[stitches] : -1;
    }

    int ask() {
        int found = -1;
        int best = fits();
        for (int row = 0; row < told.rows.size(); row++) {
            int greatest = Arrays.stream(timesOfRow(row)).max().getAsInt();
            if (!state.counts.containsKey(row) && greatest < best) {
                best = greatest;
                found = row;
            }
        }
        return found;
    }

    int learn() {
        int found = -1;
        int best = fits();
        for (int word = 0; word < told.names.size(); word++) {
            int greatest = Arrays.stream(timesOfWord(word)).max().getAsInt();
            if (!state.guessed.containsKey(word) && greatest < best) {
                best = greatest;
                found = word;
            }
        }
        return found;
    }

    private int[][] guesses() {
        if (state.guessed.size() != told.names.size()) {
            return null;
        }
        int[][] by = new int[told.names.size()][];
        for (int word = 0; word < by.length; word++) {
            by[word] = state.guessed.get(word);
        }
        return by;
    }

    /** The first bad row, and how many more it takes. */
    private int[] firstBad() {
        int[][] by = guesses();
        int there = told.casts;
        for (int row = 0; by != null && row < told.rows.size(); row++) {
            int more = taken(told.rows.get(row), by) - there;
            there = behind(told.rows.get(row), by);
            if (more != 0 || state.counts.getOrDefault(row, there) != there) {
                return new int[] {row, more};
            }
        }
        return new int[] {-1, 0};
    }

    int bad() {
        return firstBad()[0];
    }

    int off() {
        return firstBad()[1];
    }

    int behind(int row) {
        int[][] by = guesses();
        return row(row) && by != null ? behind(told.rows.get(row), by) : -1;
    }

    int twins() {
        int pairs = 0;
        for (int one = 0; one < told.names.size(); one++) {
            for (int other = 0; other < one; other++) {
                boolean same = true;
                for (int[][] dictionary : fitting()) {
                    same &= Arrays.equals(dictionary[one], dictionary[other]);
                }
                pairs += same ? 1 : 0;
            }
        }
        return pairs;
    }

    int idle() {
        int bits = 0;
        for (int word = 0; word < told.names.size(); word++) {
            bits += told.uses(word) == 0 ? 1 << word : 0;
        }
        return bits;
    }

    int drops() {
        int best = -1;
        for (int set = 0; set < 256; set++) {
            State by = state.copy();
            boolean all = true;
            for (int row = 0; row < 8; row++) {
                if ((set >> row & 1) == 1) {
                    all &= by.counts.remove(row) != null;
                }
            }
            boolean fewer = best < 0 || Integer.bitCount(set) < Integer.bitCount(best);
            if (all && fewer && !fitting(by, -1).isEmpty()) {
                best = set;
            }
        }
        return best;
    }

    /** How dear the misprints are to find here. */
    int work() {
        int words = 0;
        for (List<Integer> row : told.rows) {
            words += row.size();
        }
        return words * words * told.names.size() * told.all.size();
    }

    private int[] slips() {
        int[] found = {-1, -1, -1, 0};
        for (int row = 0; row < told.rows.size(); row++) {
            for (int place = 0; place < told.rows.get(row).size(); place++) {
                for (int word = 0; word < told.names.size(); word++) {
                    if (word != told.rows.get(row).get(place) && mends(row, place, word)) {
                        if (found[3] == 0) {
                            found = new int[] {row, place, word, 0};
                        }
                        found[3]++;
                    }
                }
            }
        }
        return found;
    }

    private boolean mends(int row, int place, int word) {
        List<List<Integer>> rows = new ArrayList<>(told.rows);
        List<Integer> other = new ArrayList<>(rows.get(row));
        other.set(place, word);
        rows.set(row, other);
        for (int[][] dictionary : told.all) {
            if (fits(rows, told.casts, state, dictionary, -1)) {
                return true;
            }
        }
        return false;
    }

    int misprints() {
        return slips()[3];
    }

    int misprint(int what) {
        return what < 0 || what > 2 ? -1 : slips()[what];
    }

    boolean turned(int row) {
        if (!row(row)) {
            return false;
        }
        List<Integer> other = new ArrayList<>(told.rows.get(row));
        Collections.reverse(other);
        return other.equals(told.rows.get(row));
    }

    boolean alike(int row, int other) {
        if (!row(row) || !row(other) || row == other || told.rows.get(row).size() != told.rows.get(other).size()) {
            return false;
        }
        Map<Integer, Integer> to = new HashMap<>();
        Map<Integer, Integer> from = new HashMap<>();
        for (int i = 0; i < told.rows.get(row).size(); i++) {
            int one = told.rows.get(row).get(i);
            int two = told.rows.get(other).get(i);
            if (to.merge(one, two, (a, b) -> a) != two || from.merge(two, one, (a, b) -> a) != one) {
                return false;
            }
        }
        return true;
    }

    int spare() {
        int sum = 0;
        for (int row : state.counts.keySet()) {
            State by = state.copy();
            by.counts.remove(row);
            sum += fitting(by, -1).size() == fits() ? 1 : 0;
        }
        return sum;
    }

    int strict(int row) {
        return row(row) ? fitting(state, row).size() - fits() : -1;
    }

    int chance(int row, int stitches) {
        if (!row(row) || stitches < 0 || stitches > 99 || fits() == 0) {
            return -1;
        }
        long reaching = fitting().stream().filter(d -> behind(told.rows.get(row), d) >= stitches).count();
        return (int) (reaching * 1000000 / fits());
    }

    int rests(int lose, int casts, int waits, int what) {
        for (int number : new int[] {lose, casts, waits}) {
            if (number < 0 || number > 9) {
                throw new NoSuchElementException();
            }
        }
        // gains of the first one, by his choice and the other one's: 0 waits, 1 casts off
        int[][] gains = {{0, waits}, {casts, -lose}};
        List<Integer> rests = new ArrayList<>();
        for (int one = 0; one < 2; one++) {
            for (int other = 0; other < 2; other++) {
                boolean first = gains[one][other] >= gains[1 - one][other];
                boolean second = gains[other][one] >= gains[1 - other][one];
                if (first && second) {
                    rests.add(2 * one + other);
                }
            }
        }
        if (what < -1 || what >= rests.size()) {
            throw new NoSuchElementException();
        }
        return what == -1 ? rests.size() : rests.get(what);
    }

    int drafts(int seed, int many, int what) {
        if (seed < 0 || seed > 9999 || many < 1 || many > 99 || what < 0 || what > 2) {
            return -2;
        }
        int[] answers = {0, 0, -1};
        java.math.BigInteger g = java.math.BigInteger.valueOf(seed);
        for (int i = 0; i < many && !told.all.isEmpty(); i++) {
            int[][] by = new int[told.names.size()][];
            for (int word = 0; word < by.length; word++) {
                g = g.multiply(java.math.BigInteger.valueOf(1103515245)).add(java.math.BigInteger.valueOf(12345))
                    .mod(java.math.BigInteger.TWO.pow(31));
                List<int[]> some = told.meanings.get(word);
                by[word] = some.get(g.shiftRight(16).intValueExact() % some.size());
            }
            int there = told.casts;
            for (List<Integer> row : told.rows) {
                answers[1] += taken(row, by) == there ? 1 : 0;
                there = behind(row, by);
            }
            if (fits(told.rows, told.casts, state, by, -1)) {
                answers[0]++;
                answers[2] = answers[2] < 0 ? i : answers[2];
            }
        }
        return answers[what];
    }

    int count(int what) {
        int guessed = 0;
        for (int word : state.guessed.keySet()) {
            guessed += 1 << word;
        }
        int counted = 0;
        for (int row : state.counts.keySet()) {
            counted += 1 << row;
        }
        int[] all = {told.names.size(), told.rows.size(), told.casts, guessed, counted, told.all.size(), noted.size(),
            past.size(), tape.length()};
        return what >= 0 && what < all.length ? all[what] : -1;
    }
}
