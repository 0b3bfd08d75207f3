import java.lang.management.ManagementFactory;
import java.util.NoSuchElementException;
import java.util.Random;
import java.util.function.IntConsumer;

/**
 * All that a run makes must have room: 600,000 objects and arrays, 7.3 million fields and elements.
 * An object takes 16 bytes at least, a field or element of ours four, so that 9.6 million bytes are
 * within both; what is allowed here is far less, so that a call that makes too much is found early.
 */
public final class RoomTest {
    private static final int CALLS = 512;
    private static final long MOST_BYTES = 1_000_000;
    private static final com.sun.management.ThreadMXBean BYTES =
        (com.sun.management.ThreadMXBean) ManagementFactory.getThreadMXBean();
    private static YearBook book;
    private static int wrong;

    public static void main(String[] args) {
        fill();
        measure("best", i -> book.best());
        measure("mend", i -> book.mend());
        measure("choices", i -> book.choices());
        measure("wrong", i -> book.wrong());
        measure("lacking", i -> book.lacking());
        measure("fewest", i -> book.fewest());
        measure("lay", i -> book.lay());
        measure("choose and lay", RoomTest::chooseAndLay);
        measure("late and drop", RoomTest::lateAndDrop);
        measure("late into all pages", RoomTest::lateIntoAll);
        measure("consent", i -> book.consent(i % 16, i % 8));
        measure("name", i -> book.name(i % 14, i % 8));
        measure("told", i -> book.told(i % 14, i % 11));
        measure("told, refused", RoomTest::toldRefused);
        measure("count", i -> book.count(i % 7));
        measure("set", i -> book.set(i % 4, 1 + i % 14));
        measure("child and picture, refused", i -> book.child(book.picture(0, 0, 1)));
        System.out.println(wrong == 0 ? "every run has room" : wrong + " runs make too much");
        if (wrong != 0) {
            System.exit(1);
        }
    }

    /** A book with all that it can hold. */
    private static void fill() {
        Random lots = new Random(1);
        book = new YearBook();
        for (int c = 0; c < 16; c++) {
            book.child(c % 10);
        }
        for (int p = 0; p < 14; p++) {
            book.picture(p % 3, lots.nextInt(101), 3 + lots.nextInt(4));
            for (int f = 0; f < 8; f++) {
                book.face(p, (p * 5 + f * 3) % 16, lots.nextInt(100), lots.nextInt(100), lots.nextInt(21));
            }
        }
        book.set(1, 3);
        book.set(2, 6);
        book.choose(16383);
    }

    /** The room of filling the book and of so many calls of one kind. */
    private static void measure(String what, IntConsumer call) {
        long before = BYTES.getThreadAllocatedBytes(Thread.currentThread().getId());
        fill();
        for (int i = 0; i < CALLS; i++) {
            call.accept(i);
        }
        long made = BYTES.getThreadAllocatedBytes(Thread.currentThread().getId()) - before;
        if (made > MOST_BYTES) {
            wrong++;
            System.out.println(CALLS + " calls of " + what + " make " + made + " bytes");
        }
    }

    private static void chooseAndLay(int i) {
        book.choose(i * 32 + 31 & 16383);
        book.lay();
    }

    private static void lateAndDrop(int i) {
        if (i == 0) {
            book.lay();
        }
        book.drop(i * 5 % 14);
        book.late(i * 5 % 14);
    }

    private static void lateIntoAll(int i) {
        if (i % 14 == 0) {
            book.choose(1);
            book.lay();
        }
        book.late(i % 14);
    }

    private static void toldRefused(int i) {
        try {
            book.told(i % 14, 11 + i);
        } catch (NoSuchElementException e) {
            // That it throws is tested elsewhere; what counts here is the room of the exception.
        }
    }
}
