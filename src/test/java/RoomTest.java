import com.sun.management.ThreadMXBean;
import java.lang.management.ManagementFactory;

/**
 * No call throws, for any numbers in any state, also beyond the 512th call; and calls make no
 * objects, so that a long run keeps to its room.
 */
final class RoomTest {
    private static final Check CHECK = new Check("RoomTest");
    private static final int[] NUMBERS = {
        Integer.MIN_VALUE, Integer.MIN_VALUE + 1, -31, -2, -1, 0, 1, 2, 3, 7, 8, 9, 10, 11, 25, 26,
        29, 30, 31, 32, 34, 39, 60, 65, 91, 92, 93, 97, 99, 100, 123, 125, 126, 127, 300,
        Integer.MAX_VALUE - 1, Integer.MAX_VALUE
    };

    private long drawn = 1;

    public static void main(String[] args) {
        RoomTest test = new RoomTest();
        test.allNumbers(new PaintedLines());
        test.allNumbers(Check.page("a<X", "\"b", "X", "\"{[", ""));
        test.allNumbers(Check.page("", "", "", "", "", "", "", "", "", "'"));
        test.longRun();
        test.room();
        CHECK.end();
    }

    private int draw() {
        drawn = drawn * 6364136223846793005L + 1442695040888963407L;
        return NUMBERS[(int) ((drawn >>> 33) % NUMBERS.length)];
    }

    private void allNumbers(PaintedLines x) {
        for (int a : NUMBERS) {
            for (int b : NUMBERS) {
                for (int c : NUMBERS) {
                    callAll(x, a, b, c);
                }
            }
        }
        // Refusals were counted, each once, and no call came to an end of its own.
        CHECK.isTrue("refusals", x.told(0) > 0 && x.told(1) > 0);
    }

    private void callAll(PaintedLines x, int a, int b, int c) {
        x.type(c);
        x.inserts(a);
        x.sets(b);
        x.puts(a, b, c);
        x.erases(a, b);
        x.splits(a, b);
        x.rule(a, b, c);
        x.at(a, b, c);
        x.of(a, b);
        x.span(a, b, c);
        x.painted(a);
        x.told(b);
        x.word();
        x.unword(c);
        x.drops(a);
        x.back();
        if (c == 0) {
            x.clear();
            x.digest();
        }
    }

    private void longRun() {
        PaintedLines x = new PaintedLines();
        for (int n = 0; n < 200000; n++) {
            callOne(x, n % 20);
        }
        CHECK.isTrue("lines", x.told(4) >= 0 && x.told(4) <= 10);
        CHECK.isTrue("words", x.told(5) >= 0 && x.told(5) <= 4);
        CHECK.isTrue("rules", x.told(6) >= 0 && x.told(6) <= 12);
        CHECK.isTrue("states back", x.told(7) >= 0 && x.told(7) <= 5);
    }

    private void callOne(PaintedLines x, int which) {
        switch (which) {
            case 0 -> x.clear();
            case 1 -> x.inserts(draw());
            case 2 -> x.sets(draw());
            case 3 -> x.puts(draw(), draw(), draw());
            case 4 -> x.erases(draw(), draw());
            case 5 -> x.splits(draw(), draw());
            case 6 -> x.word();
            case 7 -> x.unword(draw());
            case 8 -> x.rule(draw(), draw(), draw());
            case 9 -> x.back();
            case 10 -> x.drops(draw());
            case 11 -> x.digest();
            case 12 -> x.span(draw(), draw(), draw());
            default -> x.type(draw());
        }
    }

    /** What the machine's own work allocates in this thread is far less than an object each call. */
    private void room() {
        ThreadMXBean bean = (ThreadMXBean) ManagementFactory.getThreadMXBean();
        PaintedLines x = Check.page("a", "\"b", "c<X\"[");
        long id = Thread.currentThread().getId();
        long before = bean.getThreadAllocatedBytes(id);
        for (int n = 0; n < 100000; n++) {
            callOne(x, n % 20);
        }
        long bytes = bean.getThreadAllocatedBytes(id) - before;
        CHECK.isTrue("100000 calls took " + bytes + " bytes", bytes < 400000);
        before = bean.getThreadAllocatedBytes(id);
        PaintedLines y = new PaintedLines();
        bytes = bean.getThreadAllocatedBytes(id) - before;
        CHECK.isTrue("an object takes " + bytes + " bytes", bytes < 40000 && y.anew() == 0);
    }
}
