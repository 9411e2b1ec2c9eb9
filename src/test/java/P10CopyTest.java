/** Promise 10: rows of a table told again as a version of a subject, in a new file of its table. */
public final class P10CopyTest {
    private static final Check CHECK = new Check();
    private static final String R = "{\"type\":\"record\",\"name\":\"R\",\"fields\":[";

    public static void main(String[] args) {
        calls();
        same();
        answers();
        firstRow();
        empty();
        tooMuch();
        tooDeep();
        power();
        CHECK.finish("P10CopyTest");
    }

    private static void calls() {
        RecordLake lake = new RecordLake();
        Lakes.register(lake, 0, "\"int\"");
        Lakes.register(lake, 0, "\"long\"");
        Lakes.register(lake, 1, "[\"null\",\"long\"]");
        CHECK.same("no rows", lake.copy(0, 1, 0), RecordLake.EMPTY);
        Lakes.load(lake, 0, 0, 2, 4);
        Lakes.load(lake, 0, 1, 6);
        Lakes.load(lake, 1, 0, 0);
        lake.read(0, 0, 0);
        Lakes.tape(lake, "  ?");
        lake.schema();
        CHECK.same("copy", lake.copy(0, 1, 0), 3);
        CHECK.same("OUT stays", Lakes.out(lake), "2");
        CHECK.same("place stays", lake.place(), 2);
        CHECK.same("the tape stays", lake.schema(), 1);
        CHECK.same("rows of 0", lake.count(0, 2), 3);
        CHECK.same("files of 1", lake.count(1, 1), 2);
        CHECK.same("rows of 1", lake.count(1, 2), 4);
        String[] due = {"0", "2 2", "2 4", "2 6"};
        for (int i = 0; i < 4; i++) {
            lake.read(1, 0, i);
            CHECK.same("row " + i, Lakes.out(lake), due[i]);
        }
        CHECK.same("bytes of the file", lake.file(6, 3), 11 + 1 + 1 + 6 + 8);
        CHECK.index("no such subject", () -> lake.copy(4, 1, 0));
        CHECK.index("no such subject", () -> lake.copy(-1, 1, 0));
        CHECK.index("no such other", () -> lake.copy(0, 4, 0));
        CHECK.index("no such other", () -> lake.copy(0, -1, 0));
        CHECK.index("no such version of the other", () -> lake.copy(0, 1, 1));
        CHECK.index("no such version of the other", () -> lake.copy(0, 1, -1));
        CHECK.index("no such version, whatever rows", () -> lake.copy(3, 3, 0));
    }

    private static void same() {
        RecordLake lake = new RecordLake();
        Lakes.register(lake, 2, "\"int\"");
        Lakes.load(lake, 2, 0, 2, 4);
        CHECK.same("of itself", lake.copy(2, 2, 0), 2);
        CHECK.same("of itself again", lake.copy(2, 2, 0), 4);
        CHECK.same("files", lake.count(2, 1), 3);
        CHECK.same("rows", lake.count(2, 2), 8);
        StringBuilder all = new StringBuilder();
        for (int i = 0; i < 8; i++) {
            lake.read(2, 0, i);
            all.append(Lakes.out(lake));
        }
        CHECK.same("in order", all.toString(), "24242424");
    }

    private static void answers() {
        RecordLake lake = new RecordLake();
        Lakes.register(lake, 0, "[\"int\",\"string\"]");
        Lakes.register(lake, 1, "\"int\"");
        Lakes.load(lake, 0, 0, 0, 2, 2, 0);
        CHECK.same("one is a string", lake.copy(0, 1, 0), RecordLake.UNRESOLVED);
        CHECK.same("nothing has come", lake.count(1, 2), 0);
        CHECK.same("files", lake.files(), 3);
        // 2050 rows of two bytes told from one each: too many bytes for a file.
        RecordLake other = new RecordLake();
        Lakes.register(other, 0, "\"boolean\"");
        Lakes.register(other, 1, "[\"null\",\"boolean\"]");
        Lakes.load(other, 0, 0, Lakes.many(2037, 1));
        CHECK.same("4096 - 23 = 4073 bytes are no multiple of two: 2036 rows are the most", other.copy(0, 1, 0), RecordLake.FULL);
        other.clear(0);
        Lakes.load(other, 0, 0, Lakes.many(2036, 1));
        CHECK.same("2036 rows", other.copy(0, 1, 0), 2036);
        CHECK.same("bytes", other.file(3, 3), 11 + 2 + 2 + 4072 + 8);
        Lakes.register(other, 2, "\"int\"");
        for (int i = 5; i < 40; i++) {
            CHECK.same("load", Lakes.load(other, 2, 0, 2), 1);
        }
        CHECK.same("files", other.files(), 40);
        CHECK.same("no 41st file", other.copy(2, 2, 0), RecordLake.FULL);
        CHECK.same("UNRESOLVED comes before FULL", other.copy(2, 0, 0), RecordLake.UNRESOLVED);
    }

    /** UNRESOLVED and FULL by the first row that is one of both. */
    private static void firstRow() {
        String d = Lakes.repeat("d", 1000, "");
        String writer = R + "{\"name\":\"s\",\"type\":\"string\"},{\"name\":\"u\",\"type\":[\"int\",\"string\"]}]}";
        String reader = R + "{\"name\":\"s\",\"type\":\"string\"},{\"name\":\"d\",\"type\":\"string\",\"default\":\"" + d + "\"},"
                + "{\"name\":\"u\",\"type\":\"int\"}]}";
        byte[] wide = Lakes.join(Lakes.varint(3100), Lakes.many(3100, 's'), Lakes.bytes(0, 0));
        byte[] unresolved = Lakes.bytes(0, 2, 0);
        for (int i = 0; i < 2; i++) {
            RecordLake lake = new RecordLake();
            Lakes.register(lake, 0, writer);
            Lakes.register(lake, 1, reader);
            Lakes.load(lake, 0, 0, i == 0 ? wide : unresolved);
            Lakes.load(lake, 0, 0, i == 0 ? unresolved : wide);
            CHECK.same("the first of both", lake.copy(0, 1, 0), i == 0 ? RecordLake.FULL : RecordLake.UNRESOLVED);
        }
        // Rows that are too much together do not hide one that is unresolved behind them.
        RecordLake lake = new RecordLake();
        Lakes.register(lake, 0, writer);
        Lakes.register(lake, 1, reader);
        byte[] row = Lakes.bytes(0, 0, 0);
        Lakes.load(lake, 0, 0, Lakes.join(row, row, row, row, row));
        CHECK.same("five times 1005 bytes", lake.copy(0, 1, 0), RecordLake.FULL);
        Lakes.load(lake, 0, 0, unresolved);
        CHECK.same("and one unresolved", lake.copy(0, 1, 0), RecordLake.UNRESOLVED);
    }

    private static void empty() {
        RecordLake lake = new RecordLake();
        Lakes.register(lake, 0, R + "{\"name\":\"a\",\"type\":\"int\"}]}");
        Lakes.register(lake, 1, R + "]}");
        Lakes.load(lake, 0, 0, 2, 4);
        CHECK.same("told again they have no byte", lake.copy(0, 1, 0), RecordLake.EMPTY);
        CHECK.same("files", lake.files(), 3);
        Lakes.register(lake, 2, "[\"null\",\"int\"]");
        Lakes.register(lake, 3, "\"null\"");
        Lakes.load(lake, 2, 0, 0, 0);
        CHECK.same("null alone", lake.copy(2, 3, 0), RecordLake.EMPTY);
        Lakes.load(lake, 2, 0, 2, 2);
        CHECK.same("and an int", lake.copy(2, 3, 0), RecordLake.UNRESOLVED);
    }

    /** A default brings 1001 items to 1000: what is told has too much, but can be read. */
    private static void tooMuch() {
        String items = "{\"name\":\"a\",\"type\":{\"type\":\"array\",\"items\":\"null\"}}";
        for (int n = 999; n <= 1000; n++) {
            RecordLake lake = new RecordLake();
            Lakes.register(lake, 0, R + items + "]}");
            String more = "{\"name\":\"b\",\"type\":{\"type\":\"array\",\"items\":\"boolean\"},\"default\":["
                    + Lakes.repeat("true", 500, ",") + "]}";
            Lakes.register(lake, 0, R + items + "," + more + "]}");
            Lakes.load(lake, 0, 0, Lakes.join(Lakes.varint(n + 501), Lakes.bytes(0)));
            CHECK.same("it can be read", lake.read(0, 1, 0), 506);
            CHECK.same("2000 items are the most", lake.copy(0, 0, 1), n == 999 ? 1 : RecordLake.FULL);
        }
    }

    /** Each level of a list lies two deeper where the reader has a union that the writer has not. */
    private static void tooDeep() {
        String writer = "{\"type\":\"record\",\"name\":\"T\",\"fields\":[{\"name\":\"in\",\"type\":{\"type\":\"array\",\"items\":\"T\"}}]}";
        String reader = "{\"type\":\"record\",\"name\":\"T\",\"fields\":[{\"name\":\"in\",\"type\":{\"type\":\"array\",\"items\":[\"T\"]}}]}";
        for (int n = 9; n <= 11; n++) {
            RecordLake lake = new RecordLake();
            Lakes.register(lake, 0, writer);
            Lakes.register(lake, 1, reader);
            CHECK.same("load", Lakes.load(lake, 0, 0, Lakes.join(Lakes.many(n, 2), Lakes.many(n + 1, 0))), 1);
            // Record 0, array 1, union 2, record 3 ..: the array of level n lies in 3 n + 1.
            CHECK.same("levels " + n, lake.copy(0, 1, 0), n <= 10 ? 1 : RecordLake.FULL);
        }
    }

    private static void power() {
        RecordLake lake = new RecordLake();
        Lakes.register(lake, 0, "\"int\"");
        Lakes.load(lake, 0, 0, 2, 4);
        for (int n = 0; n < 2; n++) {
            lake.power(n);
            Lakes.tape(lake, "\"long\"");
            CHECK.same("power goes at block " + n, lake.copy(0, 0, 0), RecordLake.LOST);
            CHECK.same("DOWN", lake.copy(0, 0, 0), RecordLake.DOWN);
            CHECK.same("DOWN, whatever version", lake.copy(0, 1, 7), RecordLake.DOWN);
            CHECK.index("but for subjects", () -> lake.copy(0, 4, 0));
            CHECK.index("but for subjects", () -> lake.copy(-1, 0, 0));
            CHECK.same("start", lake.start(), 2);
            CHECK.same("the tape stays", lake.schema(), 0);
            CHECK.same("rows", lake.count(0, 2), 2);
        }
    }
}
