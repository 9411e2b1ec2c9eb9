import java.io.ByteArrayOutputStream;
import java.nio.charset.StandardCharsets;

/** What tests do to a lake over and over. */
final class Lakes {
    private Lakes() {
    }

    /** Puts bytes on the tape, which has just these then. */
    static void tape(RecordLake lake, byte[] bytes) {
        lake.end(0);
        append(lake, bytes);
    }

    /** Puts bytes behind the tape. The odd ones come first, filled up and cut again: so 4096 can be reached. */
    static void append(RecordLake lake, byte[] bytes) {
        int odd = bytes.length % 20;
        if (odd > 0) {
            lake.end(feed(lake, bytes, 0) - 20 + odd);
        }
        for (int i = odd; i < bytes.length; i += 20) {
            feed(lake, bytes, i);
        }
    }

    private static int feed(RecordLake lake, byte[] bytes, int from) {
        int[] n = new int[5];
        for (int j = 0; j < 20; j++) {
            int b = from + j < bytes.length ? bytes[from + j] & 255 : ' ';
            n[j / 4] = n[j / 4] << 8 | b;
        }
        return lake.feed(n[0], n[1], n[2], n[3], n[4]);
    }

    static void tape(RecordLake lake, String text) {
        tape(lake, bytes(text));
    }

    static byte[] bytes(String text) {
        return text.getBytes(StandardCharsets.ISO_8859_1);
    }

    static byte[] bytes(int... numbers) {
        byte[] row = new byte[numbers.length];
        for (int i = 0; i < row.length; i++) {
            row[i] = (byte) numbers[i];
        }
        return row;
    }

    static byte[] join(byte[]... rows) {
        ByteArrayOutputStream all = new ByteArrayOutputStream();
        for (byte[] row : rows) {
            all.writeBytes(row);
        }
        return all.toByteArray();
    }

    static byte[] varint(long v) {
        ByteArrayOutputStream all = new ByteArrayOutputStream();
        long rest = v << 1 ^ v >> 63;
        while (rest >>> 7 != 0) {
            all.write((int) (rest & 127 | 128));
            rest >>>= 7;
        }
        all.write((int) rest);
        return all.toByteArray();
    }

    static byte[] many(int n, int b) {
        byte[] row = new byte[n];
        java.util.Arrays.fill(row, (byte) b);
        return row;
    }

    static String repeat(String text, int n, String between) {
        StringBuilder all = new StringBuilder();
        for (int i = 0; i < n; i++) {
            all.append(i == 0 ? "" : between).append(text.replace("#", Integer.toString(i)));
        }
        return all.toString();
    }

    static int register(RecordLake lake, int subject, String text) {
        tape(lake, text);
        return lake.register(subject);
    }

    static int load(RecordLake lake, int subject, int version, int... numbers) {
        tape(lake, bytes(numbers));
        return lake.load(subject, version);
    }

    static int load(RecordLake lake, int subject, int version, byte[] rows) {
        tape(lake, rows);
        return lake.load(subject, version);
    }

    static String plain(RecordLake lake) {
        StringBuilder all = new StringBuilder();
        for (int i = 0; i < lake.size(0); i++) {
            all.append((char) lake.letter(i, 0));
        }
        return all.toString();
    }

    /** OUT's bytes, as numbers with blanks between them. */
    static String out(RecordLake lake) {
        StringBuilder all = new StringBuilder();
        for (int i = 0; i < lake.size(1); i++) {
            all.append(i == 0 ? "" : " ").append(lake.letter(i, 1));
        }
        return all.toString();
    }

    static String numbers(byte[] row) {
        StringBuilder all = new StringBuilder();
        for (int i = 0; i < row.length; i++) {
            all.append(i == 0 ? "" : " ").append(row[i] & 255);
        }
        return all.toString();
    }
}
