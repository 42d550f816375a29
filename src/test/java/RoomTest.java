import com.sun.management.ThreadMXBean;
import java.lang.management.ManagementFactory;

/** All calls of a run share one room, so the dearest calls, made 512 times, have to stay far below it. */
public final class RoomTest extends Checks {
    /** The room's 7.3 million elements of two bytes or more would be 14 million bytes at the very least. */
    private static final long MOST_BYTES = 2_000_000;
    private static final ThreadMXBean THREADS = (ThreadMXBean) ManagementFactory.getThreadMXBean();

    public static void main(String[] args) {
        String[] texts = {crowded("I"), crowded("J")};
        spend(texts);
        long before = THREADS.getThreadAllocatedBytes(Thread.currentThread().getId());
        spend(texts);
        long spent = THREADS.getThreadAllocatedBytes(Thread.currentThread().getId()) - before;
        if (spent > MOST_BYTES) {
            due("bytes of a run, above the limit", spent, MOST_BYTES);
        }
        end();
    }

    /** Both texts are full of short lines; each call but the typing of them is one of the dearest. */
    private static void spend(String[] texts) {
        BaselineText x = new BaselineText();
        for (int round = 0; round < 4; round++) {
            retype(x, texts[round % 2]);
            for (int i = 0; i < 64; i++) {
                x.read(i % 2);
            }
            for (int i = 0; i < 4; i++) {
                x.differ();
                x.lost(i % 2);
                x.write(i % 2);
            }
        }
    }

    private static String crowded(String descriptor) {
        StringBuilder all = new StringBuilder();
        for (int i = 0; all.length() < 469; i++) {
            boolean ofType = i % 9 == 0;
            all.append(ofType ? "enum " : " field ").append((char) ('z' - i % 26)).append(ofType ? "" : " " + descriptor).append('\n');
        }
        return all.toString();
    }
}
