import com.sun.management.ThreadMXBean;
import java.lang.management.ManagementFactory;

/** The room that a run takes: the rows are made with the object, and no call makes more. */
public final class RoomTest {
    private static final long MOST_BYTES_OF_AN_OBJECT = 400_000;
    private static final long MOST_BYTES_OF_CALLS = 20_000;

    public static void main(String[] args) {
        ThreadMXBean thread = (ThreadMXBean) ManagementFactory.getThreadMXBean();
        long id = Thread.currentThread().getId();
        dearCalls(new PracticeSheets());
        long start = thread.getThreadAllocatedBytes(id);
        PracticeSheets x = new PracticeSheets();
        long made = thread.getThreadAllocatedBytes(id);
        int calls = dearCalls(x);
        long called = thread.getThreadAllocatedBytes(id);
        Check.due("the object is small: " + (made - start) + " bytes", made - start <= MOST_BYTES_OF_AN_OBJECT);
        Check.due("calls make nothing: " + (called - made) + " bytes", called - made <= MOST_BYTES_OF_CALLS);
        Check.due("all calls of an object", calls >= 512);
        Check.end();
    }

    private static int dearCalls(PracticeSheets x) {
        Check.write(x, "a!-b!-c!-d!-e!-f!-g!-h!-i!-j!-k!-l!-m!-n!-o!");
        x.write();
        String words = "abcdefghijklmno,bcdefghijklmno,cdefghijklmno,defghijklmno";
        Check.text(x, words);
        x.keep();
        int calls = 170;
        for (int i = 0; i < 30; i++) {
            x.addWords();
            x.sheetsTo(10, 0);
            x.doSheet(10);
            x.covers(10, 3);
            x.sheet(10, 3, 1);
            x.worst(true, 13);
            x.missing(true);
            x.word(0, 4);
            x.pass(1);
            x.restore();
            x.undo();
            x.removeWord(0);
            calls += 12;
        }
        return calls;
    }
}
