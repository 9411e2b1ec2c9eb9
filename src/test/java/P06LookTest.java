import java.util.Arrays;

/** Promise 6: the tape is looked at as rows; FAULTS 1 to 8 and where they are. */
public final class P06LookTest {
    private static final Check CHECK = new Check();
    private static RecordLake lake;

    public static void main(String[] args) {
        calls();
        varints();
        simple();
        choices();
        blocks();
        maps();
        sizes();
        items();
        depth();
        data();
        CHECK.finish("P06LookTest");
    }

    private static void as(String schema) {
        lake = new RecordLake();
        CHECK.same("register " + schema, Lakes.register(lake, 0, schema), 0);
    }

    private static void rows(int due, int... tape) {
        rows(due, Lakes.bytes(tape));
    }

    private static void rows(int due, byte[] tape) {
        Lakes.tape(lake, tape);
        CHECK.same("look at " + told(tape), lake.look(0, 0), due);
        CHECK.same("place() of " + told(tape), lake.place(), RecordLake.NONE);
    }

    private static void fault(int number, int place, int... tape) {
        fault(number, place, Lakes.bytes(tape));
    }

    private static void fault(int number, int place, byte[] tape) {
        Lakes.tape(lake, tape);
        CHECK.same("look at " + told(tape), lake.look(0, 0), -number);
        CHECK.same("place() of " + told(tape), lake.place(), place);
    }

    private static String told(byte[] tape) {
        return tape.length > 60 ? Lakes.numbers(Arrays.copyOf(tape, 60)) + " .." : Lakes.numbers(tape);
    }

    private static void calls() {
        as("\"int\"");
        CHECK.index("no such subject", () -> lake.look(4, 0));
        CHECK.index("no such subject", () -> lake.look(-1, 0));
        CHECK.index("no such version", () -> lake.look(0, 1));
        CHECK.index("no such version", () -> lake.look(0, -1));
        CHECK.index("no version at all", () -> lake.look(1, 0));
        rows(RecordLake.EMPTY, new byte[0]);
        rows(3, 1, 2, 3);
        CHECK.same("the tape stays", lake.look(0, 0), 3);
        fault(1, 3, 1, 2, 128);
        CHECK.index("no such version", () -> lake.look(0, 1));
        CHECK.same("what throws changes no place", lake.place(), 3);
        as("\"null\"");
        rows(RecordLake.EMPTY, 0);
        rows(RecordLake.EMPTY, new byte[0]);
        as("{\"type\":\"record\",\"name\":\"R\",\"fields\":[{\"name\":\"f\",\"type\":{\"type\":\"fixed\",\"name\":\"F\",\"size\":0}}]}");
        rows(RecordLake.EMPTY, 1, 2);
    }

    private static void varints() {
        as("\"int\"");
        rows(1, 254, 255, 255, 255, 15);
        rows(1, 255, 255, 255, 255, 15);
        fault(2, 0, 128, 128, 128, 128, 16);
        fault(2, 0, 129, 128, 128, 128, 16);
        fault(2, 1, 0, 255, 255, 255, 255, 31);
        rows(2, 128, 0, 128, 128, 128, 128, 128, 128, 128, 128, 128, 0);
        fault(2, 0, 128, 128, 128, 128, 128, 128, 128, 128, 128, 1);
        fault(2, 0, 128, 128, 128, 128, 128, 128, 128, 128, 128, 2);
        fault(2, 0, 128, 128, 128, 128, 128, 128, 128, 128, 128, 128);
        fault(1, 9, 128, 128, 128, 128, 128, 128, 128, 128, 128);
        fault(1, 2, 0, 128);
        as("\"long\"");
        rows(1, 255, 255, 255, 255, 255, 255, 255, 255, 255, 1);
        rows(1, 254, 255, 255, 255, 255, 255, 255, 255, 255, 1);
        rows(1, 128, 128, 128, 128, 16);
        fault(2, 2, 0, 0, 255, 255, 255, 255, 255, 255, 255, 255, 255, 2);
    }

    private static void simple() {
        as("\"boolean\"");
        rows(2, 0, 1);
        fault(3, 1, 0, 2);
        fault(3, 0, 255);
        as("\"bytes\"");
        rows(2, 0, 4, 255, 0);
        fault(1, 2, 4, 255);
        fault(1, 1, 2);
        fault(6, 0, 1);
        fault(6, 1, 0, 255, 255, 255, 255, 255, 255, 255, 255, 255, 1);
        fault(1, 11, 254, 255, 255, 255, 255, 255, 255, 255, 255, 1, 7);
        as("\"string\"");
        rows(1, 6, 0, 128, 255);
        fault(6, 0, 3, 0, 0);
        as("{\"type\":\"fixed\",\"name\":\"F\",\"size\":3}");
        rows(2, 255, 255, 255, 0, 0, 0);
        fault(1, 5, 1, 2, 3, 4, 5);
    }

    private static void choices() {
        as("{\"type\":\"enum\",\"name\":\"E\",\"symbols\":[\"a\",\"b\",\"c\"]}");
        rows(3, 0, 2, 4);
        fault(5, 1, 0, 6);
        fault(5, 0, 1);
        fault(5, 0, 254, 255, 255, 255, 255, 255, 255, 255, 255, 1);
        as("[\"null\",\"boolean\"]");
        rows(3, 0, 2, 1, 0);
        fault(4, 0, 4, 0);
        fault(4, 2, 2, 1, 3);
        fault(3, 1, 2, 2);
        fault(1, 1, 2);
    }

    private static void blocks() {
        as("{\"type\":\"array\",\"items\":\"boolean\"}");
        rows(1, 0);
        rows(1, 2, 1, 0);
        rows(1, 2, 1, 4, 0, 1, 0);
        rows(1, 1, 2, 1, 0);
        rows(1, 128, 0);
        rows(2, 3, 4, 1, 1, 2, 0, 0, 0);
        fault(1, 2, 2, 1);
        fault(1, 1, 4);
        fault(1, 1, 1);
        fault(6, 1, 1, 0, 1, 0);
        fault(6, 1, 1, 4, 1, 0);
        fault(6, 1, 1, 1, 1, 0);
        fault(6, 1, 1, 255, 255, 255, 255, 255, 255, 255, 255, 255, 1, 1, 0);
        fault(3, 2, 1, 0, 2, 0);
        // The number of bytes is told behind the items: what lacks in them comes first.
        fault(1, 2, 1, 0);
        fault(2, 1, 1, 128, 128, 128, 128, 128, 128, 128, 128, 128, 2);
    }

    private static void maps() {
        as("{\"type\":\"map\",\"values\":\"boolean\"}");
        rows(1, 4, 2, 'a', 1, 0, 0, 0);
        rows(1, 1, 6, 2, 'a', 1, 0);
        fault(6, 1, 2, 1, 1, 0);
        fault(1, 3, 2, 4, 'a');
        fault(1, 3, 2, 2, 'a');
        fault(3, 3, 2, 2, 'a', 9, 0);
        // Keys may stand twice.
        rows(1, 4, 2, 'a', 1, 2, 'a', 1, 0);
    }

    private static void sizes() {
        as("{\"type\":\"array\",\"items\":\"null\"}");
        rows(1, 160, 31, 0);
        fault(6, 0, 162, 31, 0);
        rows(1, 159, 31, 0, 0);
        fault(6, 0, 161, 31, 0, 0);
        fault(6, 0, 162, 31);
        fault(6, 0, 255, 255, 255, 255, 255, 255, 255, 255, 255, 1);
        fault(6, 0, 254, 255, 255, 255, 255, 255, 255, 255, 255, 1);
        fault(6, 2, 160, 31, 2, 0);
        fault(6, 2, 160, 31, 1);
        rows(2, 160, 31, 0, 160, 31, 0);
        fault(6, 6, 158, 31, 2, 0, 160, 31, 2);
        // 2000 blocks of one item each are the most there can be.
        as("{\"type\":\"array\",\"items\":\"boolean\"}");
        byte[] most = new byte[4001];
        for (int i = 0; i < 4000; i++) {
            most[i] = (byte) (i % 2 == 0 ? 2 : 1);
        }
        rows(1, most);
        fault(6, 4000, Lakes.join(Arrays.copyOf(most, 4000), Lakes.bytes(2, 1, 0)));
        fault(1, 4000, Arrays.copyOf(most, 4000));
    }

    /** Items of all arrays and maps of a row count, however they lie in one another. */
    private static void items() {
        as("{\"type\":\"array\",\"items\":{\"type\":\"array\",\"items\":\"null\"}}");
        rows(1, Lakes.join(Lakes.varint(2), Lakes.varint(1998), Lakes.bytes(0, 0, 0)));
        fault(6, 1, Lakes.join(Lakes.varint(2), Lakes.varint(1999), Lakes.bytes(0, 0, 0)));
        fault(6, 4, Lakes.join(Lakes.varint(2), Lakes.varint(1998), Lakes.bytes(0), Lakes.varint(1), Lakes.bytes(0, 0)));
        as("{\"type\":\"record\",\"name\":\"R\",\"fields\":[{\"name\":\"a\",\"type\":{\"type\":\"array\",\"items\":\"null\"}},"
                + "{\"name\":\"m\",\"type\":{\"type\":\"map\",\"values\":\"null\"}}]}");
        rows(1, Lakes.join(Lakes.varint(1999), Lakes.bytes(0), Lakes.varint(1), Lakes.bytes(0, 0)));
        fault(6, 3, Lakes.join(Lakes.varint(1999), Lakes.bytes(0), Lakes.varint(2), Lakes.bytes(0, 0, 0)));
    }

    private static void depth() {
        as("{\"type\":\"record\",\"name\":\"L\",\"fields\":[{\"name\":\"next\",\"type\":[\"null\",\"L\"]}]}");
        // Record 0, its union 1, the next record 2 ..: the 16th union lies in 31, what is in it in 32.
        rows(1, Lakes.join(Lakes.many(14, 2), Lakes.bytes(0)));
        fault(7, 16, Lakes.join(Lakes.many(15, 2), Lakes.bytes(0)));
        fault(7, 16, Lakes.many(16, 2));
        fault(7, 16, Lakes.many(40, 2));
        fault(1, 15, Lakes.many(15, 2));
        as("{\"type\":\"record\",\"name\":\"R\",\"fields\":[{\"name\":\"next\",\"type\":\"R\"}]}");
        fault(7, 0, 1, 2, 3);
        rows(RecordLake.EMPTY, new byte[0]);
        as("{\"type\":\"record\",\"name\":\"T\",\"fields\":[{\"name\":\"in\",\"type\":{\"type\":\"array\",\"items\":\"T\"}}]}");
        rows(1, Lakes.join(Lakes.many(15, 2), Lakes.many(16, 0)));
        fault(7, 16, Lakes.join(Lakes.many(16, 2), Lakes.many(17, 0)));
        as("{\"type\":\"record\",\"name\":\"T\",\"fields\":[{\"name\":\"in\",\"type\":{\"type\":\"map\",\"values\":\"T\"}}]}");
        // The key is read before the datum that lies too deep, and has no depth of its own.
        byte[] deep = new byte[0];
        for (int i = 0; i < 15; i++) {
            deep = Lakes.join(deep, Lakes.bytes(2, 0));
        }
        rows(1, Lakes.join(deep, Lakes.many(16, 0)));
        fault(7, 32, Lakes.join(deep, Lakes.bytes(2, 0, 0)));
        fault(1, 31, Lakes.join(deep, Lakes.bytes(2)));
    }

    /** A row has 4000 data at most: an array of records of one null each has 1 + 2 for each item. */
    private static void data() {
        as("{\"type\":\"array\",\"items\":{\"type\":\"record\",\"name\":\"R\",\"fields\":["
                + "{\"name\":\"a\",\"type\":\"null\"},{\"name\":\"b\",\"type\":\"boolean\"}]}}");
        rows(1, Lakes.join(Lakes.varint(1333), Lakes.many(1333, 1), Lakes.bytes(0)));
        // 1 + 3 * 1333 = 4000: the next item is the 4001st datum.
        fault(8, 1335, Lakes.join(Lakes.varint(1334), Lakes.many(1334, 1), Lakes.bytes(0)));
        fault(8, 1335, Lakes.join(Lakes.varint(1334), Lakes.many(1333, 1)));
        fault(1, 1334, Lakes.join(Lakes.varint(1334), Lakes.many(1332, 1)));
        fault(3, 1334, Lakes.join(Lakes.varint(1334), Lakes.many(1332, 1), Lakes.bytes(2)));
        // Each row counts for itself.
        byte[] row = Lakes.join(Lakes.varint(1333), Lakes.many(1333, 1), Lakes.bytes(0));
        rows(2, Lakes.join(row, row));
        as("{\"type\":\"map\",\"values\":{\"type\":\"record\",\"name\":\"R\",\"fields\":[{\"name\":\"a\",\"type\":\"null\"}]}}");
        // Keys are no data: 1 + 2 * 1999 = 3999, and the 2000th item's null is the 4001st.
        rows(1, Lakes.join(Lakes.varint(1999), Lakes.many(1999, 0), Lakes.bytes(0)));
        fault(8, 2002, Lakes.join(Lakes.varint(2000), Lakes.many(2000, 0), Lakes.bytes(0)));
    }
}
