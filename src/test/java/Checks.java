import java.nio.charset.StandardCharsets;

/** What the tests share: a text put on the tape, and answers compared with those that are due. */
final class Checks {
    private final String of;
    private int made;
    private int wrong;

    Checks(String of) {
        this.of = of;
    }

    void due(String call, long got, long want) {
        made++;
        if (got != want) {
            wrong++;
            if (wrong <= 40) {
                System.out.println(of + ": " + call + " answered " + got + ", due is " + want);
            }
        }
    }

    void due(String call, boolean got, boolean want) {
        due(call, got ? 1 : 0, want ? 1 : 0);
    }

    boolean anyWrong() {
        return wrong > 0;
    }

    /** Ends the program: with 1 if an answer was wrong. */
    void end() {
        System.out.println(of + ": " + (made - wrong) + " of " + made + " answers are as due");
        if (wrong > 0) {
            System.exit(1);
        }
    }

    static int feed(ForeignKnit x, String text) {
        byte[] signs = text.getBytes(StandardCharsets.ISO_8859_1);
        int there = x.feed(0, 0, 0);
        for (int from = 0; from < signs.length; from += 24) {
            there = x.feed(eight(signs, from), eight(signs, from + 8), eight(signs, from + 16));
        }
        return there;
    }

    private static long eight(byte[] signs, int from) {
        long packed = 0;
        for (int i = from; i < from + 8; i++) {
            packed = packed << 8 | (i < signs.length ? signs[i] & 255 : 0);
        }
        return packed;
    }

    static int book(ForeignKnit x, String text) {
        feed(x, text);
        return x.book();
    }

    static int notes(ForeignKnit x, String text) {
        feed(x, text);
        return x.notes();
    }

    /** The meanings that a word has, as bits: each one that can be guessed. */
    static int meanings(ForeignKnit x, int word) {
        int bits = 0;
        for (int meaning = 0; meaning < 9; meaning++) {
            bits |= x.guess(word, meaning / 3, meaning % 3) == -2 ? 0 : 1 << meaning;
        }
        return bits;
    }

    /** A new object with a book, which must be without a fault. */
    static ForeignKnit of(String text) {
        ForeignKnit x = new ForeignKnit();
        if (book(x, text) != 0) {
            throw new IllegalArgumentException("a test's book has a fault: " + text);
        }
        return x;
    }
}
