import com.sun.management.ThreadMXBean;
import java.lang.management.ManagementFactory;

/**
 * What the dearest runs make: they are to stay within 600,000 objects and 7.3 million elements.
 * An object takes sixteen bytes at least, and its elements two each (few are booleans), so the
 * bytes that a run makes tell: what stays below sixteen for each of 600,000 stays within both.
 */
public final class RoomTest {
    private static final int CALLS = 512;
    private static final String LARGE = "word a any;word b any;word c any;word d any;row a b c d;row (a b)20(c d)10;";

    private static final Checks checks = new Checks("RoomTest");
    private static final ThreadMXBean BEAN = (ThreadMXBean) ManagementFactory.getThreadMXBean();

    private RoomTest() {
    }

    public static void main(String[] args) {
        due("new objects alone", RoomTest::manyObjects);
        due("new objects with large books", RoomTest::manyLargeObjects);
        due("new objects with small books", RoomTest::manySmallObjects);
        due("one book behind another", RoomTest::manyBooks);
        due("books that grow", RoomTest::growingBooks);
        due("all that is asked", RoomTest::manyQuestions);
        checks.end();
    }

    private static void due(String what, Runnable run) {
        run.run();
        long ahead = BEAN.getCurrentThreadAllocatedBytes();
        run.run();
        long bytes = BEAN.getCurrentThreadAllocatedBytes() - ahead;
        System.out.println("RoomTest: " + what + ": " + bytes + " bytes");
        checks.due(what + ": room is left", bytes < 16L * 600000, true);
    }

    private static void manyObjects() {
        for (int i = 0; i < CALLS; i++) {
            new ForeignKnit();
        }
    }

    private static void manyLargeObjects() {
        for (int i = 0; i < CALLS / 9; i++) {
            ForeignKnit x = Checks.of(LARGE);
            x.fits();
            x.line(1, 3);
            x.misprints();
        }
    }

    private static void manySmallObjects() {
        for (int i = 0; i < CALLS; i++) {
            Checks.of("word a any;word b any;row a b;").fits();
        }
    }

    /** As many dictionaries as the rules let through, a few more each time, up to the most that there are. */
    private static void growingBooks() {
        ForeignKnit x = new ForeignKnit();
        for (int words = 1; words <= 4; words++) {
            for (int most = 0; most < 9; most++) {
                String text = "rules takes * 3 + leaves < " + (most + 1) + " or which < " + (words - 1) + ";";
                for (int word = 0; word < words; word++) {
                    text += "word " + (char) ('a' + word) + " any;";
                }
                Checks.book(x, text);
                int all = most + 1;
                for (int word = 1; word < words; word++) {
                    all *= 9;
                }
                checks.due("fits of " + text, x.fits(), all);
            }
        }
    }

    private static void manyBooks() {
        ForeignKnit x = new ForeignKnit();
        for (int i = 0; i < CALLS / 7; i++) {
            Checks.book(x, i % 2 == 0 ? LARGE : "word a any;");
            x.fits();
            x.line(1, 3);
        }
    }

    private static void manyQuestions() {
        ForeignKnit x = Checks.of(LARGE);
        for (int i = 0; i < CALLS / 32; i++) {
            x.guess(0, i % 3, 1);
            x.tell(1, i);
            x.mark(i % 4, i % 7 == 3);
            x.fits();
            x.entry(i, 1);
            x.could(1);
            x.sure(2);
            x.fixed();
            x.with(1, 1, 1);
            x.least(0);
            x.most(1);
            x.kinds(1);
            x.open();
            x.has(1, i);
            x.ask();
            x.learn();
            x.bad();
            x.off();
            x.behind(1);
            x.twins();
            x.idle();
            x.drops();
            x.misprints();
            x.misprint(1);
            x.turned(1);
            x.alike(0, 1);
            x.spare();
            x.strict(1);
            x.chance(1, i);
            x.rests(1, 2, 1, 0);
            x.drafts(i, 99, 1);
            x.judged(2);
        }
    }
}
