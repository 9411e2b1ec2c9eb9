/** Promise 5: the tape becomes a version of a subject. */
public final class P05RegisterTest {
    private static final Check CHECK = new Check();

    public static void main(String[] args) {
        numbers();
        faults();
        unfit();
        sixteen();
        fortyFiles();
        noPlace();
        wants();
        CHECK.finish("P05RegisterTest");
    }

    private static void numbers() {
        RecordLake lake = new RecordLake();
        CHECK.same("first of 0", Lakes.register(lake, 0, "\"int\""), 0);
        CHECK.argument("the tape is empty", () -> lake.end(1));
        CHECK.same("plain form", Lakes.plain(lake), "\"int\"");
        CHECK.same("second of 0", Lakes.register(lake, 0, "\"long\""), 1);
        CHECK.same("first of 3", Lakes.register(lake, 3, "\"null\""), 0);
        CHECK.same("versions of 0", lake.count(0, 0), 2);
        CHECK.same("versions of 1", lake.count(1, 0), 0);
        CHECK.same("place()", lake.place(), RecordLake.NONE);
        Lakes.tape(lake, "\"string\"");
        CHECK.index("register(-1)", () -> lake.register(-1));
        CHECK.index("register(4)", () -> lake.register(4));
        CHECK.same("what throws changes nothing", Lakes.plain(lake), "\"null\"");
        CHECK.same("the tape has stayed", lake.register(2), 0);
    }

    private static void faults() {
        RecordLake lake = new RecordLake();
        CHECK.same("an empty tape", lake.register(0), -1);
        CHECK.same("place()", lake.place(), 0);
        CHECK.same("FAULT 3", Lakes.register(lake, 0, " \"foo\""), -3);
        CHECK.same("place()", lake.place(), 1);
        CHECK.same("size(0)", lake.size(0), 0);
        CHECK.same("the tape stays", lake.schema(), 3);
        CHECK.same("FAULT 12", Lakes.register(lake, 0, "{\"type\":\"enum\",\"name\":\"E\",\"symbols\":[\"a\"],\"default\":1}"), -12);
        CHECK.same("FAULT 14", Lakes.register(lake, 0, Lakes.repeat("{\"type\":\"array\",\"items\":", 16, "") + "1"
                + Lakes.repeat("}", 16, "")), -14);
        CHECK.same("no version", lake.count(0, 0), 0);
        CHECK.same("no file", lake.files(), 0);
    }

    private static void unfit() {
        RecordLake lake = new RecordLake();
        Lakes.register(lake, 0, "\"int\"");
        Lakes.tape(lake, " ?");
        lake.schema();
        CHECK.same("a fault's place", lake.place(), 1);
        CHECK.same("string behind int", Lakes.register(lake, 0, "\"string\""), RecordLake.UNFIT);
        CHECK.same("place() of UNFIT", lake.place(), RecordLake.NONE);
        CHECK.same("plain form as by schema()", Lakes.plain(lake), "\"string\"");
        CHECK.same("the tape stays", lake.register(1), 0);
        CHECK.same("long", Lakes.register(lake, 0, "\"long\""), 1);
        CHECK.same("int fits int, but long does not fit it", Lakes.register(lake, 0, "\"int\""), RecordLake.UNFIT);
        CHECK.same("a union of both", Lakes.register(lake, 0, "[\"string\",\"long\"]"), 2);
        CHECK.same("all before it must fit", Lakes.register(lake, 0, "[\"int\",\"string\"]"), RecordLake.UNFIT);
        CHECK.same("versions", lake.count(0, 0), 3);
    }

    private static void sixteen() {
        RecordLake lake = new RecordLake();
        for (int i = 0; i < 16; i++) {
            CHECK.same("version", Lakes.register(lake, 1, "\"int\""), i);
        }
        CHECK.same("a seventeenth", Lakes.register(lake, 1, "\"long\""), RecordLake.FULL);
        CHECK.same("plain form of FULL", Lakes.plain(lake), "\"long\"");
        CHECK.same("the tape stays", lake.schema(), 0);
        CHECK.same("UNFIT comes before", Lakes.register(lake, 1, "\"string\""), RecordLake.UNFIT);
        CHECK.same("a fault comes before", Lakes.register(lake, 1, "\"strin\""), -3);
        CHECK.same("another subject", Lakes.register(lake, 2, "\"string\""), 0);
    }

    private static void fortyFiles() {
        RecordLake lake = new RecordLake();
        for (int i = 0; i < 40; i++) {
            CHECK.same("version", Lakes.register(lake, i % 4, "\"int\""), i / 4);
        }
        CHECK.same("files()", lake.files(), 40);
        CHECK.same("a file more", Lakes.register(lake, 0, "\"int\""), RecordLake.FULL);
        CHECK.same("place() of FULL", lake.place(), RecordLake.NONE);
        CHECK.same("files()", lake.files(), 40);
        CHECK.same("row file more", Lakes.load(lake, 0, 0, 2), RecordLake.FULL);
    }

    /** 126 blocks: seven texts of 16 blocks, one of 13, and one block is left. */
    private static void noPlace() {
        RecordLake lake = new RecordLake();
        for (int i = 0; i < 7; i++) {
            CHECK.same("16 blocks", Lakes.register(lake, 0, Lakes.repeat(" ", 4091, "") + "\"int\""), i);
            CHECK.same("first block", lake.file(i, 2), 2 + 16 * i);
            CHECK.same("bytes", lake.file(i, 3), 4096);
        }
        CHECK.same("13 blocks", Lakes.register(lake, 1, Lakes.repeat(" ", 3323, "") + "\"int\""), 0);
        CHECK.same("two blocks", Lakes.register(lake, 1, Lakes.repeat(" ", 252, "") + "\"int\""), RecordLake.FULL);
        CHECK.same("one block", Lakes.register(lake, 1, Lakes.repeat(" ", 251, "") + "\"int\""), 1);
        CHECK.same("its place", lake.file(8, 2), 127);
        CHECK.same("no block", Lakes.register(lake, 1, "\"int\""), RecordLake.FULL);
        CHECK.same("the tape stays with FULL", lake.schema(), 0);
        // FULL writes nothing: the power that is set does not go.
        lake.power(0);
        CHECK.same("no block again", lake.register(1), RecordLake.FULL);
        CHECK.same("not DOWN", lake.files(), 9);
    }

    private static void wants() {
        RecordLake lake = new RecordLake();
        Lakes.register(lake, 0, "\n \"int\" \n ");
        CHECK.same("bytes to the end of the value", lake.file(0, 3), 7);
        CHECK.same("rows of a version's file", lake.file(0, 4), RecordLake.NONE);
        Lakes.register(lake, 1, "[\"int\"]");
        CHECK.same("no blank behind", lake.file(1, 3), 7);
        CHECK.same("behind the other's block", lake.file(1, 2), 3);
    }
}
