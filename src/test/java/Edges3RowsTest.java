import java.util.Arrays;

/** Part 3 of the document, ROWS OF BYTES, and promise 6: each sentence that names an edge, on both of its sides. */
public final class Edges3RowsTest {
    private static final Check CHECK = new Check();
    private static final RowAsker ASK = new RowAsker(CHECK);
    private static final String BOOLEANS = "{\"type\":\"array\",\"items\":\"boolean\"}";
    private static final String NULLS = "{\"type\":\"array\",\"items\":\"null\"}";
    private static final byte[] NOTHING = {};

    public static void main(String[] args) {
        words();
        varints();
        numbers();
        choicesAndFields();
        sizes();
        blocks();
        lacking();
        varintFaults();
        ints();
        choices();
        bytesBelowZero();
        items();
        bytesOfBlocks();
        depth();
        keysHaveNoDepth();
        data();
        behindSeven();
        lackingFirst();
        normal();
        tapes();
        CHECK.finish("Edges3RowsTest");
    }

    private static String record(String name, String... fields) {
        StringBuilder all = new StringBuilder("{\"type\":\"record\",\"name\":\"" + name + "\",\"fields\":[");
        for (int i = 0; i < fields.length; i += 2) {
            all.append(i == 0 ? "" : ",").append("{\"name\":\"").append(fields[i]).append("\",\"type\":").append(fields[i + 1]).append('}');
        }
        return all + "]}";
    }

    private static String enumOf(int n) {
        return "{\"type\":\"enum\",\"name\":\"E\",\"symbols\":[" + Lakes.repeat("\"s#\"", n, ",") + "]}";
    }

    /** A varint of so many bytes, more than it wants. */
    private static byte[] wide(long v, int bytes) {
        byte[] row = new byte[bytes];
        long rest = v << 1 ^ v >> 63;
        for (int i = 0; i < bytes; i++) {
            row[i] = (byte) (rest & 127 | (i < bytes - 1 ? 128 : 0));
            rest >>>= 7;
        }
        return row;
    }

    private static byte[] join(byte[]... rows) {
        return Lakes.join(rows);
    }

    private static byte[] bytes(int... numbers) {
        return Lakes.bytes(numbers);
    }

    private static void words() {
        CHECK.says("NULL: no byte");
        ASK.as(record("R", "a", "\"null\"", "b", "\"boolean\"", "c", "\"null\""));
        ASK.rows(1, 1);
        ASK.rows(3, 1, 0, 1);
        CHECK.says("BOOLEAN: 0 or 1");
        ASK.as("\"boolean\"");
        ASK.rows(1, 0);
        ASK.rows(1, 1);
        CHECK.says("3 a boolean byte above 1");
        for (int b = 2; b < 256; b++) {
            ASK.fault(3, 0, b);
            ASK.fault(3, 2, 0, 1, b, 0);
        }
    }

    private static void varints() {
        CHECK.says("in pieces of 7 bits, lowest first, each a byte, 128 more in all but the last, ten at most, the tenth 0 or 1");
        ASK.as("\"long\"");
        long[] all = {0, -1, 1, -64, 63, 64, -65, 8191, -8192, 8192, -8193, Integer.MAX_VALUE, Integer.MIN_VALUE, Integer.MAX_VALUE + 1L,
            Long.MAX_VALUE / 2, Long.MAX_VALUE, Long.MIN_VALUE};
        for (long v : all) {
            byte[] shortest = Lakes.varint(v);
            for (int n = shortest.length; n <= 10; n++) {
                ASK.rows(1, wide(v, n));
                ASK.normal(wide(v, n), shortest);
            }
        }
        CHECK.same("the least one has ten", Lakes.numbers(Lakes.varint(Long.MIN_VALUE)), "255 255 255 255 255 255 255 255 255 1");
    }

    private static void numbers() {
        CHECK.says("INT, LONG: a VARINT: of v the number 2 v (v not below 0), else -2 v - 1");
        long[] all = {0, -1, 1, -2, 63, -64, 64, -65, 2147483647, -2147483648};
        String[] due = {"0", "1", "2", "3", "126", "127", "128 1", "129 1", "254 255 255 255 15", "255 255 255 255 15"};
        for (int i = 0; i < all.length; i++) {
            RecordLake lake = new RecordLake();
            Lakes.register(lake, 0, record("R", "z", "\"boolean\""));
            Lakes.load(lake, 0, 0, 1);
            for (String word : new String[] {"int", "long"}) {
                String text = record("R", "a", "\"" + word + "\"").replace("}]", ",\"default\":" + all[i] + "}]");
                int version = Lakes.register(lake, 0, text);
                lake.read(0, version, 0);
                CHECK.same(all[i] + " as " + word, Lakes.out(lake), due[i]);
            }
        }
    }

    private static void choicesAndFields() {
        CHECK.says("ENUM: a varint, its symbol (0 the first); union: a varint, its branch, and a datum of that; record: its fields' in order");
        ASK.as(enumOf(32));
        for (int i = 0; i < 32; i++) {
            ASK.rows(1, Lakes.varint(i));
        }
        ASK.as("[\"boolean\",\"null\",\"long\"]");
        ASK.rows(1, 0, 1);
        ASK.rows(1, 2);
        ASK.rows(1, 4, 130, 0);
        ASK.rows(3, 2, 0, 0, 4, 9);
        ASK.fault(3, 1, 0, 2);
        ASK.as(record("R", "a", "\"boolean\"", "b", "\"long\"", "c", "\"boolean\""));
        ASK.rows(1, 1, 128, 0, 0);
        ASK.rows(2, 1, 7, 0, 0, 7, 1);
        ASK.fault(3, 0, 7, 1, 0);
        ASK.fault(3, 2, 1, 0, 7);
    }

    private static void sizes() {
        CHECK.says("BYTES, STRING: a varint, how many, and these");
        for (String word : new String[] {"\"bytes\"", "\"string\""}) {
            ASK.as(word);
            ASK.rows(1, 0);
            ASK.rows(2, 0, 0);
            ASK.rows(1, 2, 255);
            ASK.rows(2, 2, 255, 4, 0, 128);
            ASK.rows(1, join(Lakes.varint(63), Lakes.many(63, 1)));
            ASK.rows(1, join(Lakes.varint(64), Lakes.many(64, 1)));
            ASK.looked(1, join(Lakes.varint(4094), Lakes.many(4094, 255)));
            ASK.fault(1, 4096, join(Lakes.varint(4095), Lakes.many(4094, 255)));
        }
        CHECK.says("FIXED: its bytes");
        for (int n : new int[] {1, 63, 64}) {
            ASK.as("{\"type\":\"fixed\",\"name\":\"F\",\"size\":" + n + "}");
            ASK.rows(1, Lakes.many(n, 255));
            ASK.rows(2, Lakes.many(2 * n, 200));
            if (n > 1) {
                ASK.fault(1, n - 1, Lakes.many(n - 1, 0));
                ASK.fault(1, 2 * n + 1, Lakes.many(2 * n + 1, 0));
            }
        }
    }

    private static void blocks() {
        CHECK.says("array: blocks, each a varint n: 0 is the end; above 0 n items come; below 0 a varint, how many bytes the items have, then -n items");
        ASK.as(BOOLEANS);
        ASK.rows(1, 0);
        ASK.rows(2, 0, 0);
        ASK.rows(1, 2, 1, 0);
        ASK.rows(1, 2, 1, 2, 0, 0);
        ASK.rows(1, 1, 2, 1, 0);
        ASK.rows(1, 3, 4, 1, 0, 2, 1, 1, 2, 0, 0);
        ASK.rows(2, 1, 2, 1, 0, 0);
        ASK.fault(1, 2, 2, 1);
        ASK.fault(1, 3, 1, 2, 1);
        CHECK.says("map: likewise, an item is a STRING and a datum.");
        ASK.as("{\"type\":\"map\",\"values\":\"boolean\"}");
        ASK.rows(1, 0);
        ASK.rows(1, 2, 0, 1, 0);
        ASK.rows(1, 2, 2, 255, 1, 0);
        ASK.rows(1, 1, 6, 2, 'k', 1, 2, 0, 0, 0);
        // Keys may be the same.
        ASK.rows(1, 4, 2, 'k', 1, 2, 'k', 0, 0);
    }

    /** A row of all kinds, none of whose prefixes is one. */
    private static byte[] rowOfAll() {
        return join(bytes(1), wide(-5, 3), wide(Long.MIN_VALUE, 10), bytes(4, 7, 8), bytes(130, 0, 9), bytes(1, 2, 3), bytes(128, 0),
                bytes(2, 1), bytes(3, 4, 1, 0, 2, 1, 0), bytes(1, 8, 4, 'k', 'l', 1, 2, 0, 0, 0), bytes(1));
    }

    private static void lacking() {
        CHECK.says("1 a byte lacks, at the length");
        ASK.as(record("R", "a", "\"boolean\"", "b", "\"int\"", "c", "\"long\"", "d", "\"bytes\"", "e", "\"string\"",
                "f", "{\"type\":\"fixed\",\"name\":\"F\",\"size\":3}", "g", enumOf(2), "h", "[\"null\",\"boolean\"]", "i", BOOLEANS,
                "j", "{\"type\":\"map\",\"values\":\"boolean\"}", "k", "\"boolean\""));
        byte[] row = rowOfAll();
        ASK.rows(1, row);
        ASK.rows(2, join(row, row));
        for (int i = 1; i < row.length; i++) {
            ASK.fault(1, i, Arrays.copyOf(row, i));
            ASK.fault(1, row.length + i, join(row, Arrays.copyOf(row, i)));
        }
    }

    private static void varintFaults() {
        CHECK.says("2 a varint of more than ten bytes, or its tenth above 1");
        String[] schemas = {"\"long\"", "\"int\"", "\"bytes\"", "\"string\"", enumOf(2), "[\"boolean\"]", BOOLEANS, "{\"type\":\"map\",\"values\":\"null\"}"};
        for (String schema : schemas) {
            ASK.as(record("R", "a", "\"boolean\"", "b", schema));
            byte[] rest = schema.contains("boolean") && schema.startsWith("[") ? bytes(1) : NOTHING;
            ASK.rows(1, join(bytes(1), wide(0, 10), rest));
            for (int tenth : new int[] {2, 3, 127, 128, 129, 255}) {
                ASK.fault(2, 1, join(bytes(1), Lakes.many(9, 128), bytes(tenth)));
                ASK.fault(2, 1, join(bytes(1), Lakes.many(9, 128), bytes(tenth, 0, 0)));
            }
            ASK.fault(1, 10, join(bytes(1), Lakes.many(9, 128)));
        }
        // A key's number of bytes, and a block's.
        ASK.as("{\"type\":\"map\",\"values\":\"null\"}");
        ASK.rows(1, join(bytes(2), wide(0, 10), bytes(0)));
        ASK.fault(2, 1, join(bytes(2), Lakes.many(9, 128), bytes(2, 0)));
        ASK.rows(1, join(bytes(1), wide(1, 10), bytes(0, 0)));
        ASK.fault(2, 1, join(bytes(1), Lakes.many(9, 128), bytes(2, 0, 0)));
    }

    private static void ints() {
        CHECK.says("or an INT beyond 32 bits");
        ASK.as("\"int\"");
        ASK.rows(1, Lakes.varint(Integer.MAX_VALUE));
        ASK.rows(1, Lakes.varint(Integer.MIN_VALUE));
        ASK.rows(1, wide(Integer.MIN_VALUE, 10));
        for (long v : new long[] {Integer.MAX_VALUE + 1L, Integer.MIN_VALUE - 1L, 1L << 32, -(1L << 32), Long.MAX_VALUE, Long.MIN_VALUE}) {
            ASK.fault(2, 0, Lakes.varint(v));
            ASK.fault(2, 2, join(bytes(130, 0), Lakes.varint(v), bytes(0)));
        }
        ASK.as("\"long\"");
        ASK.rows(1, Lakes.varint(Integer.MAX_VALUE + 1L));
    }

    private static void choices() {
        CHECK.says("4 no such branch");
        ASK.as("[\"null\",\"boolean\"]");
        ASK.rows(1, 0);
        ASK.rows(1, 2, 1);
        for (long v : new long[] {-1, 2, 256, 1L << 32, (1L << 32) + 1, Long.MAX_VALUE, Long.MIN_VALUE}) {
            ASK.fault(4, 0, Lakes.varint(v));
            ASK.fault(4, 3, join(bytes(0, 2, 1), Lakes.varint(v), bytes(0)));
        }
        ASK.as("[\"null\"]");
        ASK.rows(2, 0, 0);
        ASK.fault(4, 0, 2);
        CHECK.says("5 no such symbol");
        for (int n : new int[] {1, 2, 32}) {
            ASK.as(enumOf(n));
            ASK.rows(1, 0);
            ASK.rows(1, Lakes.varint(n - 1));
            for (long v : new long[] {-1, n, 256, 1L << 32, Long.MAX_VALUE, Long.MIN_VALUE}) {
                ASK.fault(5, 0, Lakes.varint(v));
                ASK.fault(5, 1, join(bytes(0), Lakes.varint(v)));
            }
        }
    }

    private static void bytesBelowZero() {
        CHECK.says("6 a number of bytes below 0");
        for (String word : new String[] {"\"bytes\"", "\"string\""}) {
            ASK.as(word);
            ASK.rows(1, 0);
            for (long v : new long[] {-1, -2, Integer.MIN_VALUE, Long.MIN_VALUE}) {
                ASK.fault(6, 0, Lakes.varint(v));
                ASK.fault(6, 2, join(bytes(2, 1), Lakes.varint(v), bytes(0, 0)));
            }
            // More than there are: bytes lack, however many.
            for (long v : new long[] {1, 4097, Integer.MAX_VALUE, 1L << 32, Long.MAX_VALUE}) {
                ASK.fault(1, Lakes.varint(v).length, Lakes.varint(v));
            }
            ASK.fault(1, 11, join(Lakes.varint(Long.MAX_VALUE), bytes(0)));
        }
        ASK.as("{\"type\":\"map\",\"values\":\"null\"}");
        ASK.rows(1, 2, 0, 0);
        ASK.fault(6, 1, 2, 1, 0);
        ASK.fault(6, 1, join(bytes(2), Lakes.varint(Long.MIN_VALUE)));
        ASK.fault(6, 2, 4, 0, 1, 0);
    }

    private static void items() {
        CHECK.says("the block by which a datum of a row would have more than 2000 items in all");
        ASK.as(NULLS);
        ASK.rows(1, join(Lakes.varint(2000), bytes(0)));
        ASK.fault(6, 0, join(Lakes.varint(2001), bytes(0)));
        ASK.rows(1, join(Lakes.varint(-2000), bytes(0, 0)));
        ASK.fault(6, 0, join(Lakes.varint(-2001), bytes(0, 0)));
        ASK.rows(1, join(Lakes.varint(1999), Lakes.varint(1), bytes(0)));
        ASK.fault(6, 2, join(Lakes.varint(1999), Lakes.varint(2), bytes(0)));
        ASK.fault(6, 3, join(Lakes.varint(1999), Lakes.varint(1), Lakes.varint(1), bytes(0)));
        ASK.fault(6, 2, join(Lakes.varint(1999), Lakes.varint(-2), bytes(0, 0)));
        // Each row for itself.
        ASK.rows(2, join(Lakes.varint(2000), bytes(0), Lakes.varint(2000), bytes(0)));
        ASK.fault(6, 3, join(Lakes.varint(2000), bytes(0), Lakes.varint(2001), bytes(0)));
        CHECK.says("(at its first varint, as soon as that is there, whatever lacks behind it; -2^63 too;");
        ASK.fault(6, 0, Lakes.varint(2001));
        ASK.fault(6, 0, Lakes.varint(-2001));
        ASK.fault(6, 0, Lakes.varint(Long.MIN_VALUE));
        ASK.fault(6, 0, Lakes.varint(Long.MIN_VALUE + 1));
        ASK.fault(6, 0, Lakes.varint(Long.MAX_VALUE));
        ASK.fault(6, 0, Lakes.varint(1L << 32));
        ASK.fault(6, 0, Lakes.varint(-(1L << 32)));
        ASK.fault(6, 2, join(Lakes.varint(2000), Lakes.varint(Long.MIN_VALUE)));
        ASK.fault(6, 2, join(Lakes.varint(2000), Lakes.varint(Long.MAX_VALUE)));
        ASK.fault(1, 1, Arrays.copyOf(Lakes.varint(2001), 1));
        ASK.fault(1, 2, Lakes.varint(-2000));
        ASK.fault(1, 2, Lakes.varint(2000));
        ASK.as(BOOLEANS);
        ASK.fault(1, 2, Lakes.varint(2000));
        ASK.fault(6, 0, join(Lakes.varint(2001), bytes(7)));
        CHECK.says("items of all arrays and maps of the row, however they lie in one another, count)");
        ASK.as("{\"type\":\"array\",\"items\":" + NULLS + "}");
        ASK.rows(1, join(bytes(2), Lakes.varint(1999), bytes(0, 0)));
        ASK.fault(6, 1, join(bytes(2), Lakes.varint(2000), bytes(0, 0)));
        ASK.rows(1, join(bytes(4), Lakes.varint(1000), bytes(0), Lakes.varint(998), bytes(0, 0)));
        ASK.fault(6, 4, join(bytes(4), Lakes.varint(1000), bytes(0), Lakes.varint(999), bytes(0, 0)));
        ASK.fault(6, 4, join(bytes(2), Lakes.varint(1999), bytes(0), bytes(2)));
        ASK.as(record("R", "a", NULLS, "m", "{\"type\":\"map\",\"values\":[\"null\"," + NULLS + "]}"));
        ASK.rows(1, join(Lakes.varint(1990), bytes(0, 4, 0, 0, 0, 2), Lakes.varint(8), bytes(0, 0)));
        ASK.fault(6, 8, join(Lakes.varint(1990), bytes(0, 4, 0, 0, 0, 2), Lakes.varint(9), bytes(0, 0)));
        ASK.fault(6, 3, join(Lakes.varint(1990), bytes(0), Lakes.varint(11), bytes(0, 0)));
        // A map's as an array's.
        ASK.as("{\"type\":\"map\",\"values\":\"null\"}");
        ASK.rows(1, join(Lakes.varint(2000), Lakes.many(2000, 0), bytes(0)));
        ASK.fault(6, 0, join(Lakes.varint(2001), Lakes.many(2001, 0), bytes(0)));
        ASK.fault(6, 0, Lakes.varint(Long.MIN_VALUE));
    }

    private static void bytesOfBlocks() {
        CHECK.says("a number of bytes before a block that is not that of its items");
        ASK.as(BOOLEANS);
        ASK.rows(1, 3, 4, 1, 0, 0);
        ASK.fault(6, 1, 3, 2, 1, 0, 0);
        ASK.fault(6, 1, 3, 6, 1, 0, 0);
        ASK.fault(6, 1, 3, 0, 1, 0, 0);
        // A wide varint that tells the right number is right, and what is told is where it begins.
        ASK.rows(1, 131, 0, 132, 0, 1, 0, 0);
        ASK.fault(6, 2, 131, 0, 134, 0, 1, 0, 0);
        ASK.as(NULLS);
        ASK.rows(1, 3, 0, 0);
        ASK.fault(6, 1, 3, 2, 0);
        CHECK.says("(told behind them, also if it is below 0, or more than there are: nothing else hangs on it)");
        ASK.as(BOOLEANS);
        for (long v : new long[] {-1, -2, Long.MIN_VALUE, 3, 4096, 1L << 32, (1L << 32) + 2, Long.MAX_VALUE}) {
            byte[] before = join(bytes(3), Lakes.varint(v));
            ASK.fault(6, 1, join(before, bytes(1, 0, 0)));
            ASK.fault(6, 1, join(before, bytes(1, 0)));
            ASK.fault(3, before.length + 1, join(before, bytes(1, 2, 0)));
            ASK.fault(1, before.length + 1, join(before, bytes(1)));
        }
        // The inner block ends first.
        ASK.as("{\"type\":\"array\",\"items\":" + BOOLEANS + "}");
        ASK.rows(1, 1, 8, 1, 2, 1, 0, 0);
        ASK.fault(6, 3, 1, 0, 1, 0, 1, 0, 0);
        ASK.fault(6, 1, 1, 0, 1, 2, 1, 0, 0);
        // A map's key belongs to its items.
        ASK.as("{\"type\":\"map\",\"values\":\"boolean\"}");
        ASK.rows(1, 1, 6, 2, 'k', 1, 0);
        ASK.fault(6, 1, 1, 2, 2, 'k', 1, 0);
    }

    private static void depth() {
        CHECK.says("7 a datum that lies in 32 others (records, branches, items, fields each one within the other; "
                + "a union's datum is one, its branch's, which lies in it, another; the row's own lies in none)");
        String list = record("L", "next", "[\"null\",\"L\"]");
        ASK.as(list);
        // Record 2 k, union 2 k + 1, its branch's datum 2 k + 2.
        ASK.rows(1, join(Lakes.many(14, 2), bytes(0)));
        ASK.fault(7, 16, join(Lakes.many(15, 2), bytes(0)));
        ASK.fault(7, 16, join(Lakes.many(15, 2), bytes(2, 0)));
        ASK.fault(4, 15, join(Lakes.many(15, 2), bytes(4)));
        // One deeper: the last branch's lies in 31, the next union in 32.
        ASK.as(record("W", "in", list));
        ASK.rows(1, join(Lakes.many(14, 2), bytes(0)));
        ASK.fault(7, 15, join(Lakes.many(15, 2), bytes(0)));
        // Items: record 2 k, array 2 k + 1.
        ASK.as(record("T", "in", "{\"type\":\"array\",\"items\":\"T\"}"));
        ASK.rows(1, join(Lakes.many(15, 2), Lakes.many(16, 0)));
        ASK.fault(7, 16, join(Lakes.many(16, 2), Lakes.many(17, 0)));
        ASK.as(record("W", "in", record("T", "in", "{\"type\":\"array\",\"items\":\"T\"}")));
        ASK.rows(1, join(Lakes.many(14, 2), Lakes.many(15, 0)));
        ASK.fault(7, 15, join(Lakes.many(15, 2), Lakes.many(16, 0)));
        // Fields alone: a record without an end.
        ASK.as(record("R", "next", "\"R\""));
        ASK.fault(7, 0, 1);
        ASK.as(record("R", "b", "\"boolean\"", "next", "\"R\""));
        ASK.fault(7, 31, Lakes.many(40, 1));
        CHECK.says("at its first byte, before that is read (also where no byte is left)");
        ASK.fault(7, 31, Lakes.many(31, 1));
        ASK.fault(1, 30, Lakes.many(30, 1));
        ASK.as(list);
        ASK.fault(7, 16, Lakes.many(16, 2));
        ASK.fault(1, 15, Lakes.many(15, 2));
        ASK.as(record("W", "in", list));
        ASK.fault(7, 15, Lakes.many(15, 2));
        ASK.fault(1, 14, Lakes.many(14, 2));
    }

    private static void keysHaveNoDepth() {
        CHECK.says("a key is none and has no depth");
        ASK.as(record("T", "in", "{\"type\":\"map\",\"values\":\"T\"}"));
        byte[] deep = NOTHING;
        for (int i = 0; i < 15; i++) {
            deep = join(deep, bytes(2, 2, 'k'));
        }
        ASK.rows(1, join(deep, Lakes.many(16, 0)));
        // The map lies in 31: its keys are read, its values lie in 32.
        ASK.fault(7, 48, join(deep, bytes(2, 2, 'k', 0)));
        ASK.fault(7, 48, join(deep, bytes(2, 2, 'k')));
        ASK.fault(1, 47, join(deep, bytes(2, 2)));
        ASK.fault(6, 46, join(deep, bytes(2, 1)));
    }

    private static void data() {
        CHECK.says("8 the 4001st datum of a row (each that 7 speaks of is one, the row's own too;");
        String one = record("I", "n", "\"null\"");
        // The row's own, the array and two for each item.
        ASK.as(record("R", "a", "{\"type\":\"array\",\"items\":" + one + "}"));
        ASK.rows(1, join(Lakes.varint(1999), bytes(0)));
        ASK.fault(8, 2, join(Lakes.varint(2000), bytes(0)));
        ASK.rows(2, join(Lakes.varint(1999), bytes(0), Lakes.varint(1999), bytes(0)));
        // One less, and the 2000th item's own is the 4000th, its null the 4001st.
        ASK.as("{\"type\":\"array\",\"items\":" + one + "}");
        ASK.rows(1, join(Lakes.varint(1999), bytes(0)));
        ASK.fault(8, 2, Lakes.varint(2000));
        ASK.as(record("R", "b", "\"boolean\"", "a", "{\"type\":\"array\",\"items\":" + one + "}", "c", "\"boolean\""));
        // 1 + 1 + 1 + 2 n + 1: the last boolean is the 4000th, or the 4002nd.
        ASK.rows(1, join(bytes(1), Lakes.varint(1998), bytes(0, 1)));
        ASK.fault(8, 3, join(bytes(1), Lakes.varint(1999), bytes(0, 1)));
        // A union's datum and its branch's are two.
        ASK.as("{\"type\":\"array\",\"items\":[\"null\"]}");
        ASK.rows(1, join(Lakes.varint(1999), Lakes.many(1999, 0), bytes(0)));
        ASK.fault(8, 2002, join(Lakes.varint(2000), Lakes.many(2000, 0), bytes(0)));
        ASK.fault(8, 2002, join(Lakes.varint(2000), Lakes.many(2000, 0)));
        ASK.fault(1, 2001, join(Lakes.varint(2000), Lakes.many(1999, 0)));
        // Keys are none: 1 + 2 * 1999 without them.
        ASK.as("{\"type\":\"map\",\"values\":" + one + "}");
        ASK.rows(1, join(Lakes.varint(1999), Lakes.many(1999, 0), bytes(0)));
        ASK.fault(8, 2002, join(Lakes.varint(2000), Lakes.many(2000, 0)));
        ASK.fault(1, 2001, join(Lakes.varint(2000), Lakes.many(1999, 0)));
    }

    private static void behindSeven() {
        CHECK.says("likewise, behind 7.");
        String list = record("L", "next", "[\"null\",\"L\"]");
        ASK.as(record("R", "z", "\"null\"", "a", "{\"type\":\"array\",\"items\":" + record("I", "n", "\"null\"") + "}", "l", list));
        // 3 + 2 n before the list, whose d-th datum lies in d others: with 1983 that in 32 is the 4001st.
        byte[] chain = Lakes.many(40, 2);
        ASK.fault(7, 3 + 15, join(Lakes.varint(1982), bytes(0), chain));
        ASK.fault(7, 3 + 15, join(Lakes.varint(1983), bytes(0), chain));
        ASK.fault(7, 3 + 15, join(Lakes.varint(1983), bytes(0), Lakes.many(15, 2)));
        ASK.fault(8, 3 + 14, join(Lakes.varint(1984), bytes(0), chain));
        ASK.fault(8, 3 + 14, join(Lakes.varint(1984), bytes(0), Lakes.many(14, 2)));
        ASK.fault(1, 3 + 13, join(Lakes.varint(1984), bytes(0), Lakes.many(13, 2)));
        ASK.rows(1, join(Lakes.varint(1983), bytes(0), Lakes.many(14, 2), bytes(0)));
    }

    private static void lackingFirst() {
        CHECK.says("Each at the first byte of what is wrong; varints at their first byte; 1 comes before others where bytes lack.");
        ASK.as("\"int\"");
        ASK.fault(1, 4, 255, 255, 255, 255);
        ASK.fault(1, 6, 255, 255, 255, 255, 255, 255);
        ASK.fault(2, 0, 255, 255, 255, 255, 255, 255, 1);
        ASK.as("[\"null\"]");
        ASK.fault(1, 1, 130);
        ASK.fault(4, 0, 130, 0);
        ASK.as(enumOf(1));
        ASK.fault(1, 1, 130);
        ASK.fault(5, 0, 130, 0);
        ASK.as("\"bytes\"");
        ASK.fault(1, 1, 129);
        ASK.fault(6, 0, 129, 0);
        ASK.as(BOOLEANS);
        ASK.fault(1, 1, 162);
        ASK.fault(6, 0, 162, 31);
        ASK.fault(1, 2, 1, 128);
    }

    private static void normal() {
        CHECK.says("NORMAL: each varint as short as can be, items all in one block, with n above 0, and the end.");
        ASK.as("\"bytes\"");
        ASK.normal(bytes(132, 128, 0, 5, 6), bytes(4, 5, 6));
        ASK.as("[\"null\",\"int\"]");
        ASK.normal(bytes(130, 0, 134, 0), bytes(2, 6));
        ASK.as(enumOf(2));
        ASK.normal(wide(1, 10), bytes(2));
        ASK.as(BOOLEANS);
        ASK.normal(wide(0, 10), bytes(0));
        ASK.normal(bytes(1, 2, 1, 128, 0), bytes(2, 1, 0));
        ASK.normal(bytes(2, 1, 1, 2, 0, 4, 1, 1, 0), bytes(8, 1, 0, 1, 1, 0));
        // 63 items and one more: the number wants a byte more.
        ASK.normal(join(Lakes.varint(63), Lakes.many(63, 1), bytes(0)), join(bytes(126), Lakes.many(63, 1), bytes(0)));
        ASK.normal(join(Lakes.varint(63), Lakes.many(63, 1), bytes(2, 1, 0)), join(bytes(128, 1), Lakes.many(64, 1), bytes(0)));
        ASK.as("{\"type\":\"map\",\"values\":" + BOOLEANS + "}");
        ASK.normal(bytes(1, 14, 130, 0, 'k', 1, 2, 1, 0, 2, 0, 0, 0), bytes(4, 2, 'k', 2, 1, 0, 0, 0, 0));
        // 2000 blocks of one item each.
        ASK.as(NULLS);
        ASK.normal(join(Lakes.many(2000, 2), bytes(0)), join(Lakes.varint(2000), bytes(0)));
    }

    private static void tapes() {
        CHECK.says("looked at as rows, one behind the other, of a version, to its end: how many");
        ASK.as("\"boolean\"");
        ASK.rows(1, 1);
        ASK.looked(4096, Lakes.many(4096, 1));
        ASK.fault(3, 4095, join(Lakes.many(4095, 1), bytes(2)));
        CHECK.says("EMPTY when it has no byte, or a row ends (without a FAULT) and has none");
        ASK.empty(NOTHING);
        for (String schema : new String[] {"\"null\"", "{\"type\":\"fixed\",\"name\":\"F\",\"size\":0}", record("R"),
            record("R", "a", "\"null\"", "b", "{\"type\":\"fixed\",\"name\":\"F\",\"size\":0}")}) {
            ASK.as(schema);
            ASK.empty(NOTHING);
            ASK.empty(bytes(0));
            ASK.empty(Lakes.many(100, 255));
        }
        // With a fault it is no row that ends: 1 + 32 * (1 + 32 * (1 + 4)) data without a byte.
        String four = record("A", "a", "\"null\"", "b", "\"null\"", "c", "\"null\"", "d", "\"null\"");
        String more = "{\"type\":\"record\",\"name\":\"B\",\"fields\":[{\"name\":\"x\",\"type\":" + four + "},"
                + Lakes.repeat("{\"name\":\"f#\",\"type\":\"A\"}", 31, ",") + "]}";
        String most = "{\"type\":\"record\",\"name\":\"C\",\"fields\":[{\"name\":\"x\",\"type\":" + more + "},"
                + Lakes.repeat("{\"name\":\"f#\",\"type\":\"B\"}", 31, ",") + "]}";
        ASK.as(more);
        ASK.empty(bytes(0));
        ASK.as(most);
        ASK.fault(8, 0, 0);
        ASK.empty(NOTHING);
        // The empty array has a byte.
        ASK.as(NULLS);
        ASK.rows(1, 0);
    }
}
