/** Promise 8: the tape's rows become a file of the table, as NORMAL. */
public final class P08LoadTest {
    private static final Check CHECK = new Check();

    public static void main(String[] args) {
        calls();
        normal();
        wants();
        tooLong();
        fullList();
        power();
        CHECK.finish("P08LoadTest");
    }

    private static void calls() {
        RecordLake lake = new RecordLake();
        Lakes.register(lake, 0, "\"int\"");
        CHECK.same("three rows", Lakes.load(lake, 0, 0, 2, 4, 6), 3);
        CHECK.argument("the tape is empty", () -> lake.end(1));
        CHECK.same("an empty tape", lake.load(0, 0), RecordLake.EMPTY);
        CHECK.same("a fault", Lakes.load(lake, 0, 0, 2, 128), -1);
        CHECK.same("its place", lake.place(), 2);
        lake.end(1);
        CHECK.same("the tape has stayed", lake.load(0, 0), 1);
        CHECK.same("files of rows", lake.count(0, 1), 2);
        CHECK.same("rows", lake.count(0, 2), 4);
        Lakes.tape(lake, Lakes.bytes(8));
        CHECK.index("no such subject", () -> lake.load(4, 0));
        CHECK.index("no such subject", () -> lake.load(-1, 0));
        CHECK.index("no such version", () -> lake.load(0, 1));
        CHECK.index("no such version", () -> lake.load(0, -1));
        CHECK.index("no version at all", () -> lake.load(1, 0));
        CHECK.same("the tape stays with what throws", lake.load(0, 0), 1);
        Lakes.register(lake, 1, "\"null\"");
        CHECK.same("rows without bytes", Lakes.load(lake, 1, 0, 1, 2), RecordLake.EMPTY);
        lake.end(2);
        CHECK.same("the tape stays with EMPTY", lake.look(0, 0), 2);
    }

    private static void normal(String schema, byte[] row, String due) {
        RecordLake lake = new RecordLake();
        Lakes.register(lake, 2, schema);
        CHECK.same("load as " + schema, Lakes.load(lake, 2, 0, Lakes.join(row, row)), 2);
        for (int i = 0; i < 2; i++) {
            lake.read(2, 0, i);
            CHECK.same("normal row " + i + " of " + schema, Lakes.out(lake), due);
        }
        int bytes = 2 * due.split(" ").length;
        CHECK.same("bytes of the file", lake.file(1, 3), 20 + Lakes.varint(bytes).length + bytes);
    }

    private static void normal() {
        normal("\"int\"", Lakes.bytes(130, 128, 0), "2");
        normal("\"long\"", Lakes.bytes(255, 255, 255, 255, 255, 255, 255, 255, 255, 1), "255 255 255 255 255 255 255 255 255 1");
        normal("\"bytes\"", Lakes.bytes(132, 0, 7, 128), "4 7 128");
        normal("[\"null\",\"int\"]", Lakes.bytes(130, 0, 128, 0), "2 0");
        normal("{\"type\":\"enum\",\"name\":\"E\",\"symbols\":[\"a\",\"b\"]}", Lakes.bytes(130, 0), "2");
        String array = "{\"type\":\"array\",\"items\":\"int\"}";
        normal(array, Lakes.bytes(128, 0), "0");
        normal(array, Lakes.bytes(2, 8, 3, 6, 138, 0, 12, 130, 0, 14, 0), "8 8 10 12 14 0");
        normal("{\"type\":\"map\",\"values\":\"int\"}", Lakes.bytes(1, 8, 130, 0, 'k', 14, 2, 0, 16, 128, 0), "4 2 107 14 0 16 0");
        normal("{\"type\":\"array\",\"items\":" + array + "}",
                Lakes.bytes(2, 2, 2, 2, 4, 0, 1, 2, 0, 2, 1, 2, 6, 0, 0), "6 4 2 4 0 0 2 6 0 0");
        // 40 and 40 items in two blocks are 80 in one, whose number has two bytes.
        byte[] forty = Lakes.join(Lakes.varint(40), Lakes.many(40, 1));
        normal("{\"type\":\"array\",\"items\":\"boolean\"}", Lakes.join(forty, forty, Lakes.bytes(0)),
                "160 1" + Lakes.repeat(" 1", 80, "") + " 0");
    }

    private static void wants() {
        RecordLake lake = new RecordLake();
        Lakes.register(lake, 0, "\"int\"");
        Lakes.load(lake, 0, 0, 2);
        CHECK.same("one row of one byte", lake.file(1, 3), 11 + 1 + 1 + 1 + 8);
        Lakes.load(lake, 0, 0, Lakes.many(63, 2));
        CHECK.same("63 rows", lake.file(2, 3), 11 + 1 + 1 + 63 + 8);
        Lakes.load(lake, 0, 0, Lakes.many(64, 2));
        CHECK.same("64 rows", lake.file(3, 3), 11 + 2 + 2 + 64 + 8);
        CHECK.same("its rows", lake.file(3, 4), 64);
        CHECK.same("its version", lake.file(3, 1), 0);
    }

    private static void tooLong() {
        RecordLake lake = new RecordLake();
        Lakes.register(lake, 0, "\"boolean\"");
        // 11 + 2 + 2 + n + 8: 4073 rows of a byte are the most.
        CHECK.same("4074 rows", Lakes.load(lake, 0, 0, Lakes.many(4074, 1)), RecordLake.FULL);
        CHECK.same("no file", lake.files(), 1);
        lake.end(4073);
        CHECK.same("the tape stays with FULL", lake.load(0, 0), 4073);
        CHECK.same("bytes", lake.file(1, 3), 4096);
        CHECK.same("a row in it", lake.read(0, 0, 4072), 1);
        // As NORMAL: a long tape may be a short file.
        Lakes.register(lake, 1, "\"int\"");
        byte[] wide = new byte[4096];
        for (int i = 0; i < 4096; i++) {
            wide[i] = (byte) (i % 2 == 0 ? 130 : 0);
        }
        CHECK.same("2048 wide rows", Lakes.load(lake, 1, 0, wide), 2048);
        CHECK.same("bytes", lake.file(3, 3), 11 + 2 + 2 + 2048 + 8);
    }

    private static void fullList() {
        RecordLake lake = new RecordLake();
        Lakes.register(lake, 0, "\"int\"");
        for (int i = 1; i < 40; i++) {
            CHECK.same("load", Lakes.load(lake, 0, 0, 2), 1);
        }
        CHECK.same("a 41st file", Lakes.load(lake, 0, 0, 2), RecordLake.FULL);
        CHECK.same("the place of FULL", lake.place(), RecordLake.NONE);
        CHECK.same("a fault comes first", Lakes.load(lake, 0, 0, 128), -1);
    }

    private static void power() {
        RecordLake lake = new RecordLake();
        Lakes.register(lake, 0, "\"boolean\"");
        // 300 rows want two blocks, and the list one.
        for (int n = 0; n < 3; n++) {
            lake.power(n);
            CHECK.same("power goes at block " + n, Lakes.load(lake, 0, 0, Lakes.many(300, 1)), RecordLake.LOST);
            CHECK.argument("the tape is empty", () -> lake.end(1));
            CHECK.same("DOWN", lake.load(0, 0), RecordLake.DOWN);
            CHECK.index("but for subjects", () -> lake.load(4, 0));
            CHECK.same("no version is looked for", lake.load(3, 9), RecordLake.DOWN);
            CHECK.same("start", lake.start(), 1);
            CHECK.same("rows", lake.count(0, 2), 0);
        }
        lake.power(3);
        CHECK.same("power stays for three blocks", Lakes.load(lake, 0, 0, Lakes.many(300, 1)), 300);
        CHECK.same("and goes at the next", Lakes.load(lake, 0, 0, 1), RecordLake.LOST);
        Lakes.tape(lake, Lakes.bytes(1, 1));
        CHECK.same("DOWN", lake.load(0, 0), RecordLake.DOWN);
        lake.start();
        CHECK.same("the tape stays with DOWN", lake.load(0, 0), 2);
    }
}
