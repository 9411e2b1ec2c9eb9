/** Promise 9: a row told again as a version of its subject. */
public final class P09ReadTest {
    private static final Check CHECK = new Check();
    private static final String R = "{\"type\":\"record\",\"name\":\"R\",\"fields\":[";

    public static void main(String[] args) {
        calls();
        words();
        unions();
        enums();
        records();
        defaults();
        rowsOfRecords();
        unresolvedAndFull();
        CHECK.finish("P09ReadTest");
    }

    /** A lake whose subject 0 has both schemas, the second by way of one that everything fits. */
    private static RecordLake lake(String writer, String reader) {
        RecordLake lake = new RecordLake();
        CHECK.same("register " + writer, Lakes.register(lake, 0, writer), 0);
        CHECK.same("register " + reader, Lakes.register(lake, 0, reader), 1);
        return lake;
    }

    private static void told(String writer, String reader, String due, int... row) {
        RecordLake lake = lake(writer, reader);
        CHECK.same("load as " + writer, Lakes.load(lake, 0, 0, row), 1);
        int bytes = due.isEmpty() ? 0 : due.split(" ").length;
        CHECK.same("read as " + reader, lake.read(0, 1, 0), bytes);
        CHECK.same("OUT", Lakes.out(lake), due);
        CHECK.same("size(1)", lake.size(1), bytes);
        // A row that is told as what it was written in stays as it is.
        lake.read(0, 0, 0);
        CHECK.same("OUT as it was", Lakes.out(lake), Lakes.numbers(Lakes.bytes(row)));
    }

    private static void calls() {
        RecordLake lake = lake("\"int\"", "\"long\"");
        CHECK.index("no row", () -> lake.read(0, 0, 0));
        Lakes.load(lake, 0, 0, 2, 4);
        Lakes.load(lake, 0, 1, 6);
        Lakes.register(lake, 1, "\"int\"");
        Lakes.load(lake, 1, 0, 20);
        Lakes.load(lake, 0, 0, 8, 10, 12);
        int[] due = {2, 4, 6, 8, 10, 12};
        for (int i = 0; i < 6; i++) {
            CHECK.same("read " + i, lake.read(0, 1, i), 1);
            CHECK.same("its byte", lake.letter(0, 1), due[i]);
        }
        CHECK.index("row 6", () -> lake.read(0, 1, 6));
        CHECK.index("row -1", () -> lake.read(0, 1, -1));
        CHECK.index("version 2", () -> lake.read(0, 2, 0));
        CHECK.index("version -1", () -> lake.read(0, -1, 0));
        CHECK.index("subject 4", () -> lake.read(4, 0, 0));
        CHECK.index("subject -1", () -> lake.read(-1, 0, 0));
        CHECK.index("row 1 of 1", () -> lake.read(1, 0, 1));
        CHECK.same("OUT stays with what throws", Lakes.out(lake), "12");
        CHECK.same("long as int", lake.read(0, 0, 2), RecordLake.UNRESOLVED);
        CHECK.same("OUT is empty", lake.size(1), 0);
        CHECK.index("no letter", () -> lake.letter(0, 1));
        lake.read(0, 0, 1);
        lake.power(0);
        lake.clear(0);
        CHECK.same("DOWN", lake.read(0, 0, 1), RecordLake.DOWN);
        CHECK.same("DOWN, whatever row and version", lake.read(0, 77, -5), RecordLake.DOWN);
        CHECK.index("but for the subject", () -> lake.read(5, 0, 0));
        CHECK.same("OUT stays while DOWN", Lakes.out(lake), "4");
    }

    private static void words() {
        told("\"null\"".replace("null", "boolean"), "\"boolean\"", "1", 1);
        told("\"int\"", "\"long\"", "255 255 255 255 15", 255, 255, 255, 255, 15);
        told("\"bytes\"", "\"string\"", "4 255 0", 4, 255, 0);
        told("\"string\"", "\"bytes\"", "0", 0);
        told("{\"type\":\"fixed\",\"name\":\"F\",\"size\":2}", "[\"null\",{\"type\":\"fixed\",\"name\":\"F\",\"size\":2}]", "2 7 8", 7, 8);
    }

    private static void unions() {
        told("[\"null\",\"int\"]", "[\"string\",\"long\",\"null\"]", "2 14", 2, 14);
        told("[\"null\",\"int\"]", "[\"string\",\"long\",\"null\"]", "4", 0);
        told("\"int\"", "[\"string\",\"int\"]", "2 14", 14);
        // The first that matches is taken, also if a later one is the same.
        told("\"int\"", "[\"long\",\"int\"]", "0 14", 14);
        told("\"string\"", "[\"bytes\",\"string\"]", "0 2 97", 2, 97);
        told("[\"int\"]", "\"long\"", "14", 0, 14);
        told("{\"type\":\"array\",\"items\":\"int\"}", "[{\"type\":\"map\",\"values\":\"int\"},{\"type\":\"array\",\"items\":[\"null\",\"long\"]}]",
                "2 4 2 6 2 8 0", 4, 6, 8, 0);
        // Arrays whose items match: one of a union always does.
        RecordLake lake = lake("[{\"type\":\"array\",\"items\":\"int\"},\"string\"]",
                "[{\"type\":\"array\",\"items\":[\"int\",\"string\"]},\"string\"]");
        Lakes.load(lake, 0, 0, 0, 2, 4, 0);
        lake.read(0, 1, 0);
        CHECK.same("OUT", Lakes.out(lake), "0 2 0 4 0");
    }

    private static void enums() {
        told("{\"type\":\"enum\",\"name\":\"E\",\"symbols\":[\"a\",\"b\"]}",
                "{\"type\":\"enum\",\"name\":\"E\",\"symbols\":[\"c\",\"b\",\"a\"]}", "4", 0);
        String less = "{\"type\":\"enum\",\"name\":\"E\",\"symbols\":[\"x\",\"b\"],\"default\":\"b\"}";
        told("{\"type\":\"enum\",\"name\":\"E\",\"symbols\":[\"a\",\"b\"]}", less, "2", 0);
        told("{\"type\":\"enum\",\"name\":\"E\",\"symbols\":[\"a\",\"b\"]}", less, "2", 2);
    }

    private static void records() {
        String writer = R + "{\"name\":\"a\",\"type\":\"int\"},{\"name\":\"b\",\"type\":\"string\"},{\"name\":\"c\",\"type\":\"boolean\"}]}";
        told(writer, R + "{\"name\":\"c\",\"type\":\"boolean\"},{\"name\":\"a\",\"type\":\"long\"}]}", "1 14", 14, 2, 97, 1);
        told(writer, R + "]}", "", 14, 2, 97, 1);
        told(writer, R + "{\"name\":\"x\",\"type\":\"int\",\"default\":-1},{\"name\":\"b\",\"type\":\"bytes\"}]}", "1 2 97", 14, 2, 97, 1);
        // A default does not stand in for a field that is there.
        told(writer, R + "{\"name\":\"a\",\"type\":\"int\",\"default\":9}]}", "14", 14, 2, 97, 1);
        String list = R + "{\"name\":\"v\",\"type\":\"int\"},{\"name\":\"n\",\"type\":[\"null\",\"R\"]}]}";
        told(list, R + "{\"name\":\"n\",\"type\":[\"R\",\"null\"]},{\"name\":\"v\",\"type\":\"long\"}]}",
                "0 0 2 6 4 2", 2, 2, 4, 2, 6, 0);
    }

    private static void defaulted(String type, String value, String due) {
        told(R + "{\"name\":\"a\",\"type\":\"boolean\"}]}",
                R + "{\"name\":\"x\",\"type\":" + type + ",\"default\":" + value + "},{\"name\":\"a\",\"type\":\"boolean\"}]}",
                due.isEmpty() ? "1" : due + " 1", 1);
    }

    private static void defaults() {
        defaulted("\"null\"", "null", "");
        defaulted("\"boolean\"", "true", "1");
        defaulted("\"boolean\"", "false", "0");
        defaulted("\"int\"", "-64", "127");
        defaulted("\"int\"", "64", "128 1");
        defaulted("\"long\"", "-9223372036854775808", "255 255 255 255 255 255 255 255 255 1");
        defaulted("\"long\"", "9223372036854775807", "254 255 255 255 255 255 255 255 255 1");
        defaulted("\"bytes\"", "\"\\u00ff\\u0000a\"", "6 255 0 97");
        defaulted("\"string\"", "\"\"", "0");
        defaulted("{\"type\":\"fixed\",\"name\":\"F\",\"size\":2}", "\"\\n~\"", "10 126");
        defaulted("{\"type\":\"enum\",\"name\":\"E\",\"symbols\":[\"p\",\"q\"],\"default\":\"p\"}", "\"q\"", "2");
        defaulted("{\"type\":\"array\",\"items\":\"int\"}", "[]", "0");
        defaulted("{\"type\":\"array\",\"items\":\"int\"}", "[1,2]", "4 2 4 0");
        defaulted("{\"type\":\"array\",\"items\":\"null\"}", "[null,null]", "4 0");
        defaulted("{\"type\":\"map\",\"values\":\"int\"}", "{\"b\":1,\"a\":2}", "4 2 98 2 2 97 4 0");
        defaulted("{\"type\":\"map\",\"values\":\"int\"}", "{}", "0");
        defaulted("[\"int\",\"null\"]", "7", "0 14");
        defaulted("{\"type\":\"array\",\"items\":[\"null\",\"int\"]}", "[null]", "2 0 0");
        defaulted("{\"type\":\"record\",\"name\":\"S\",\"fields\":[{\"name\":\"p\",\"type\":\"int\",\"default\":5},"
                + "{\"name\":\"q\",\"type\":\"string\"}]}", "{\"q\":\"z\",\"o\":1,\"p\":3}", "6 2 122");
        defaulted("{\"type\":\"record\",\"name\":\"S\",\"fields\":[]}", "{}", "");
    }

    private static void rowsOfRecords() {
        String writer = "{\"type\":\"array\",\"items\":" + R + "{\"name\":\"a\",\"type\":\"int\"},{\"name\":\"b\",\"type\":\"int\"}]}}";
        String reader = "{\"type\":\"array\",\"items\":" + R + "{\"name\":\"b\",\"type\":\"int\"},{\"name\":\"a\",\"type\":\"int\"}]}}";
        told(writer, reader, "4 4 2 8 6 0", 4, 2, 4, 6, 8, 0);
        told(writer.replace("array", "map").replace("items", "values"), reader.replace("array", "map").replace("items", "values"),
                "4 2 120 4 2 0 8 6 0", 4, 2, 120, 2, 4, 0, 6, 8, 0);
    }

    private static void unresolvedAndFull() {
        RecordLake lake = new RecordLake();
        String blank = Lakes.repeat("x", 1500, "");
        // Version 1 is a reader for version 0, but what version 1 writes is not always one for version 0.
        Lakes.register(lake, 0, R + "{\"name\":\"t\",\"type\":\"string\"}]}");
        Lakes.register(lake, 0, R + "{\"name\":\"t\",\"type\":\"string\"},{\"name\":\"d\",\"type\":\"string\",\"default\":\"" + blank + "\"},"
                + "{\"name\":\"u\",\"type\":[\"null\",\"int\",{\"type\":\"array\",\"items\":\"int\"}],\"default\":null}]}");
        Lakes.register(lake, 0, R + "{\"name\":\"t\",\"type\":\"string\"},{\"name\":\"e\",\"type\":\"string\",\"default\":\"" + blank + "\"},"
                + "{\"name\":\"u\",\"type\":[\"null\",\"int\",{\"type\":\"array\",\"items\":\"int\"}],\"default\":null}]}");
        byte[] text = Lakes.many(2590, 't');
        CHECK.same("load", Lakes.load(lake, 0, 0, Lakes.join(Lakes.varint(2590), text)), 1);
        CHECK.same("read as it is", lake.read(0, 0, 0), 2592);
        // 2592, two for the length of 1500, and a branch.
        CHECK.same("4095 bytes", lake.read(0, 1, 0), 4095);
        Lakes.load(lake, 0, 0, Lakes.join(Lakes.varint(2591), text, Lakes.bytes('t')));
        CHECK.same("4096 bytes", lake.read(0, 1, 1), 4096);
        CHECK.same("letter(4095)", lake.letter(4095, 1), 0);
        Lakes.load(lake, 0, 0, Lakes.join(Lakes.varint(2592), text, Lakes.bytes('t', 't')));
        CHECK.same("4097 bytes", lake.read(0, 1, 2), RecordLake.FULL);
        CHECK.same("OUT is empty", lake.size(1), 0);
        whicheverFirst();
    }

    /** UNRESOLVED and FULL, whichever comes first as it is told byte by byte. */
    private static void whicheverFirst() {
        String w = R + "{\"name\":\"s\",\"type\":\"string\"},{\"name\":\"u\",\"type\":[\"int\",\"string\"]}]}";
        RecordLake lake = new RecordLake();
        Lakes.register(lake, 1, R + "{\"name\":\"s\",\"type\":\"string\"},{\"name\":\"u\",\"type\":\"int\"}]}");
        Lakes.register(lake, 1, w);
        byte[] most = Lakes.many(4000, 's');
        Lakes.load(lake, 1, 1, Lakes.join(Lakes.varint(4000), most, Lakes.bytes(2, 0)));
        CHECK.same("string as int", lake.read(1, 0, 0), RecordLake.UNRESOLVED);
        String d = "{\"name\":\"d\",\"type\":\"string\",\"default\":\"" + Lakes.repeat("d", 92, "") + "\"}";
        Lakes.register(lake, 1, w.replace("},{\"name\":\"u\"", "}," + d + ",{\"name\":\"u\""));
        CHECK.same("4002 and 94 and one", lake.read(1, 2, 0), RecordLake.FULL);
        RecordLake other = new RecordLake();
        Lakes.register(other, 1, R + "{\"name\":\"s\",\"type\":\"string\"}," + d + ",{\"name\":\"u\",\"type\":\"int\"}]}");
        Lakes.register(other, 1, w);
        Lakes.load(other, 1, 1, Lakes.join(Lakes.varint(4000), most, Lakes.bytes(2, 0)));
        CHECK.same("4096 bytes, then UNRESOLVED", other.read(1, 0, 0), RecordLake.UNRESOLVED);
        RecordLake third = new RecordLake();
        Lakes.register(third, 1, R + "{\"name\":\"s\",\"type\":\"string\"}," + d.replace("dd", "ddd") + ",{\"name\":\"u\",\"type\":\"int\"}]}");
        Lakes.register(third, 1, w);
        Lakes.load(third, 1, 1, Lakes.join(Lakes.varint(4000), most, Lakes.bytes(2, 0)));
        CHECK.same("FULL before UNRESOLVED", third.read(1, 0, 0), RecordLake.FULL);
        // No branch matches: not even the branch's number is told.
        RecordLake fourth = new RecordLake();
        Lakes.register(fourth, 1, R + "{\"name\":\"s\",\"type\":\"string\"}," + d + ",{\"name\":\"u\",\"type\":[\"null\",\"int\"]}]}");
        Lakes.register(fourth, 1, w.replace("[\"int\",", "[\"null\",\"int\","));
        Lakes.load(fourth, 1, 1, Lakes.join(Lakes.varint(4000), most, Lakes.bytes(4, 0)));
        CHECK.same("no branch behind 4096", fourth.read(1, 0, 0), RecordLake.UNRESOLVED);
        unresolved();
    }

    private static void unresolved() {
        RecordLake lake = new RecordLake();
        String less = "{\"type\":\"array\",\"items\":[\"int\",\"null\"]}";
        Lakes.register(lake, 2, less.replace("[\"int\",\"null\"]", "\"int\""));
        Lakes.register(lake, 2, less);
        Lakes.load(lake, 2, 1, 2, 0, 8, 0, 0, 2, 2, 0, 4, 0, 8, 2, 0);
        int[] due = {3, 1, RecordLake.UNRESOLVED, RecordLake.UNRESOLVED};
        for (int i = 0; i < 4; i++) {
            CHECK.same("row " + i, lake.read(2, 0, i), due[i]);
        }
        Lakes.register(lake, 3, "{\"type\":\"enum\",\"name\":\"E\",\"symbols\":[\"a\"]}");
        Lakes.register(lake, 3, "{\"type\":\"enum\",\"name\":\"E\",\"symbols\":[\"b\",\"a\"]}");
        Lakes.load(lake, 3, 1, 0, 2);
        CHECK.same("no such symbol", lake.read(3, 0, 0), RecordLake.UNRESOLVED);
        CHECK.same("a symbol", lake.read(3, 0, 1), 1);
    }
}
