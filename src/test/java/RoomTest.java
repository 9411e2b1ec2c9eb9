import com.sun.management.ThreadMXBean;
import java.lang.management.ManagementFactory;

/** All calls of a run live in one room: an object takes its rows when it is made, and no call makes one. */
public final class RoomTest {
    private static final ThreadMXBean THREADS = (ThreadMXBean) ManagementFactory.getThreadMXBean();

    public static void main(String[] args) {
        Check check = new Check();
        long before = taken();
        RecordLake lake = new RecordLake();
        long made = taken() - before;
        // Numbers are of four or eight bytes, bytes of one: far below the room's 7.3 million elements.
        check.yes("an object takes less than a megabyte and a half: " + made, made < 1_500_000);
        fill(lake);
        work(lake);
        before = taken();
        for (int i = 0; i < 500; i++) {
            work(lake);
        }
        long more = taken() - before;
        check.yes("calls take nothing: " + more, more < 5000);
        check.finish("RoomTest");
    }

    private static long taken() {
        return THREADS.getThreadAllocatedBytes(Thread.currentThread().getId());
    }

    private static final String R = "{\"type\":\"record\",\"name\":\"R\",\"fields\":[{\"name\":\"a\",\"type\":\"int\"},"
            + "{\"name\":\"b\",\"type\":{\"type\":\"array\",\"items\":[\"null\",\"R\"]}}]}";
    private static final int[] TEXT = numbers(Lakes.bytes(R.replace("]}}]}", "]}},{\"name\":\"c\",\"type\":\"string\",\"default\":\"x\"}]}")));
    private static final int[] ROWS = numbers(Lakes.many(40, 0));

    private static void fill(RecordLake lake) {
        Lakes.register(lake, 0, R);
        Lakes.load(lake, 0, 0, 2, 4, 0, 2, 4, 0, 0);
    }

    /** Bytes as feed() wants them, filled up with blanks. */
    private static int[] numbers(byte[] bytes) {
        int[] all = new int[(bytes.length + 19) / 20 * 5];
        for (int i = 0; i < all.length * 4; i++) {
            all[i / 4] = all[i / 4] << 8 | (i < bytes.length ? bytes[i] & 255 : ' ');
        }
        return all;
    }

    private static void tape(RecordLake lake, int[] numbers) {
        lake.end(0);
        for (int i = 0; i < numbers.length; i += 5) {
            lake.feed(numbers[i], numbers[i + 1], numbers[i + 2], numbers[i + 3], numbers[i + 4]);
        }
    }

    /** One of every call, none of which throws. */
    private static void work(RecordLake lake) {
        tape(lake, TEXT);
        lake.schema();
        lake.register(0);
        tape(lake, ROWS);
        lake.look(0, 0);
        lake.load(0, 0);
        lake.read(0, 1, 0);
        lake.copy(0, 0, 1);
        lake.copy(0, 0, 1);
        lake.compact(0);
        lake.fits(0, 0, 0, 1);
        lake.count(0, 2);
        lake.print(0, 1);
        lake.letter(0, 1);
        lake.size(1);
        lake.file(0, 3);
        lake.files();
        lake.place();
        lake.power(0);
        lake.clear(0);
        lake.start();
        lake.clear(0);
        tape(lake, ROWS);
        lake.load(0, 0);
    }
}
