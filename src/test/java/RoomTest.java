import java.lang.management.ManagementFactory;

/**
 * The dearest run that there is, an object that only merges, stays far within the room that all its
 * calls have together: 7.3 million fields and elements. An element takes at least 4 bytes of the rows
 * of numbers that the program makes, so that the bytes which the thread took tell enough.
 */
public final class RoomTest {
    private static final int MOST_CALLS = 512;
    private static final long ROOM = 7_300_000;

    public static void main(String[] args) {
        Check check = new Check();
        var threads = (com.sun.management.ThreadMXBean) ManagementFactory.getThreadMXBean();
        long self = Thread.currentThread().getId();
        long before = threads.getThreadAllocatedBytes(self);
        RenameMerge m = new RenameMerge(50);
        int calls = layDearTrees(m);
        for (; calls < MOST_CALLS; calls++) {
            m.merge();
        }
        long elements = (threads.getThreadAllocatedBytes(self) - before) / 4;
        System.out.println("elements at the most: " + elements);
        check.due("a dear result", m.length(3, 40), 76);
        check.due("less than a third of the room", elements < ROOM / 3, true);
        check.end();
    }

    /** Two longest texts, of three line merges each, and line merges in conflict at four paths more. */
    private static int layDearTrees(RenameMerge m) {
        int calls = 1;
        m.style(1);
        for (int i = 0; i < 2; i++) {
            int one = 1 + 2 * i;
            int two = 2 + 2 * i;
            int to = 40 + i;
            m.put(0, one, 0x84372615, false);
            m.put(1, to, 0xC4B32A19, false);
            m.put(2, one, 0xE4F3E21D, false);
            m.put(0, two, 0x81273645, false);
            m.put(2, to, 0xC1B23A49, false);
            m.put(1, two, 0xE1F2E34D, false);
            calls += 6;
        }
        for (int i = 0; i < 4; i++) {
            m.put(0, 60 + i, 0x84372615, false);
            m.put(1, 60 + i, 0xC4B32A19, false);
            m.put(2, 60 + i, 0xE4F3E21D, false);
            calls += 3;
        }
        return calls;
    }
}
