import com.sun.management.ThreadMXBean;
import java.lang.management.ManagementFactory;

/** The dearest calls on the largest towns: they end soon, and take nearly no room behind the constructor. */
public final class RoomTest {
    private static final Check CHECK = new Check("RoomTest");
    /** A run's room is 7.3 million fields and elements; an object with its calls must stay far below. */
    private static final long MOST_BYTES = 1000000;
    private static final long MOST_MILLIS = 60000;

    public static void main(String[] args) {
        ThreadMXBean threads = (ThreadMXBean) ManagementFactory.getThreadMXBean();
        long began = System.currentTimeMillis();
        run(dense());
        long before = threads.getCurrentThreadAllocatedBytes();
        run(dense());
        long bytes = threads.getCurrentThreadAllocatedBytes() - before;
        System.out.println("RoomTest: " + bytes + " bytes for 512 calls");
        CHECK.due("bytes for an object and 512 calls: " + bytes, bytes < MOST_BYTES ? 1 : 0, 1);
        long millis = System.currentTimeMillis() - began;
        CHECK.due("milliseconds: " + millis, millis < MOST_MILLIS ? 1 : 0, 1);
        game();
        CHECK.close();
    }

    /** Six crossings, all but one of them beside all others: nothing else has as many walks. */
    private static String dense() {
        StringBuilder text = new StringBuilder("town crossings 6 uses 3 half 3;");
        for (int x = 0; x < 6; x++)
            for (int y = x + 1; y < 6; y++) if (x + y < 9) text.append("street " + x + " " + y + " " + (1 + (x * y) % 9) + ";");
        for (int e = 0; e < 6; e++) text.append("errand " + e % 5 + " 5 at " + e + ";");
        return text.toString();
    }

    private static void run(String text) {
        SpentTurns s = Check.town(text);
        for (int i = 0; i < 40; i++) {
            s.give(0, 1, 2);
            s.take(0, 1, 2);
            s.undo();
            s.dawn();
            s.key();
            s.wide(0, 8);
            s.sure(1, 2, 8);
            s.flow(4, 5);
            s.noon(63);
            s.strays(i, 20, 0, 20, 3);
            s.undo();
            s.keep(i % 3);
        }
        CHECK.due("wide(0, 8)", s.wide(0, 8) > 100000 ? 1 : 0, 1);
        CHECK.due("dawn()", s.dawn(), 6);
    }

    /** Twelve uses that are all at hand at one crossing. */
    private static void game() {
        StringBuilder text = new StringBuilder("town crossings 5 uses 0 half 0;street 0 1 1;street 0 2 1;street 0 3 1;street 0 4 1;");
        for (int x = 1; x < 5; x++) text.append("turn 0 " + x + " 0 uses 1;");
        for (int x = 1; x < 5; x++) {
            text.append("turn " + x + " 0 " + (x % 4 + 1) + " uses 1;");
            text.append("turn " + x + " 0 " + x + " uses 1;");
        }
        SpentTurns s = Check.town(text.toString());
        CHECK.due("uses left", s.count(6), 12);
        CHECK.due("wins ends", Math.abs(s.wins(1, 0)) <= 1 ? 1 : 0, 1);
    }
}
