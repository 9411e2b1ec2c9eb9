/** Promises 20 and 21: power goes at a block, and start() finds what was done before. */
public final class P20PowerTest {
    private static final Check CHECK = new Check();

    public static void main(String[] args) {
        arguments();
        counting();
        whileDown();
        everyBlock();
        manyTimes();
        CHECK.finish("P20PowerTest");
    }

    private static void arguments() {
        RecordLake lake = new RecordLake();
        CHECK.argument("power(-2)", () -> lake.power(-2));
        CHECK.argument("power(1001)", () -> lake.power(1001));
        CHECK.argument("all too few", () -> lake.power(Integer.MIN_VALUE));
        CHECK.same("power(1000)", Check.thrownBy(() -> lake.power(1000)), "nothing");
        CHECK.same("power(-1)", Check.thrownBy(() -> lake.power(-1)), "nothing");
        CHECK.state("start()", lake::start);
        lake.power(0);
        CHECK.argument("power(-2)", () -> lake.power(-2));
        CHECK.same("what throws sets nothing", Lakes.register(lake, 0, "\"int\""), RecordLake.LOST);
        CHECK.same("start()", lake.start(), 0);
        CHECK.state("start() again", lake::start);
        CHECK.same("no power is set any more", Lakes.register(lake, 0, "\"int\""), 0);
    }

    private static void counting() {
        RecordLake lake = new RecordLake();
        lake.power(5);
        CHECK.same("blocks 0 and 1", Lakes.register(lake, 0, "\"int\""), 0);
        CHECK.same("blocks 2 and 3", Lakes.load(lake, 0, 0, 2), 1);
        CHECK.same("block 4, the list alone", lake.clear(0), 1);
        CHECK.same("block 5", Lakes.load(lake, 0, 0, 2), RecordLake.LOST);
        lake.start();
        lake.power(0);
        lake.power(2);
        CHECK.same("what was set before does not count", Lakes.load(lake, 0, 0, 2), 1);
        lake.power(RecordLake.NONE);
        CHECK.same("it stays", Lakes.load(lake, 0, 0, 2), 1);
        // What writes nothing does not count.
        lake.power(0);
        Lakes.tape(lake, "\"string\"");
        lake.schema();
        lake.look(0, 0);
        CHECK.same("UNFIT", lake.register(0), RecordLake.UNFIT);
        lake.read(0, 0, 0);
        lake.clear(1);
        lake.compact(1);
        CHECK.same("EMPTY", lake.copy(1, 0, 0), RecordLake.EMPTY);
        CHECK.same("not DOWN", lake.files(), 3);
        CHECK.same("LOST", lake.copy(0, 0, 0), RecordLake.LOST);
        CHECK.same("start()", lake.start(), 3);
    }

    private static void whileDown() {
        RecordLake lake = new RecordLake();
        Lakes.register(lake, 0, "\"int\"");
        Lakes.load(lake, 0, 0, 2, 4);
        lake.read(0, 0, 1);
        lake.power(0);
        CHECK.same("LOST", Lakes.register(lake, 0, "\"long\""), RecordLake.LOST);
        CHECK.same("register", lake.register(0), RecordLake.DOWN);
        CHECK.same("look", lake.look(0, 0), RecordLake.DOWN);
        CHECK.same("load", lake.load(0, 0), RecordLake.DOWN);
        CHECK.same("copy", lake.copy(0, 0, 0), RecordLake.DOWN);
        CHECK.same("compact", lake.compact(0), RecordLake.DOWN);
        CHECK.same("clear", lake.clear(0), RecordLake.DOWN);
        CHECK.same("count", lake.count(0, 0), RecordLake.DOWN);
        CHECK.same("files", lake.files(), RecordLake.DOWN);
        CHECK.index("register(4)", () -> lake.register(4));
        CHECK.index("look(4, 0)", () -> lake.look(4, 0));
        CHECK.same("look at no version", lake.look(2, 8), RecordLake.DOWN);
        CHECK.same("the plain form stays", Lakes.plain(lake), "\"long\"");
        CHECK.same("OUT stays", Lakes.out(lake), "4");
        Lakes.tape(lake, "\"null\"");
        CHECK.same("register while DOWN", lake.register(1), RecordLake.DOWN);
        CHECK.same("leaves the plain form", Lakes.plain(lake), "\"long\"");
        lake.power(2);
        CHECK.argument("power while DOWN", () -> lake.power(1001));
        CHECK.same("start()", lake.start(), 2);
        CHECK.same("rows", lake.count(0, 2), 2);
        CHECK.same("what was set while DOWN is for behind start()", lake.register(1), 0);
        CHECK.same("LOST", Lakes.load(lake, 0, 0, 6), RecordLake.LOST);
        CHECK.same("start()", lake.start(), 3);
        CHECK.same("read as it was", lake.read(0, 0, 1), 1);
        CHECK.same("its byte", lake.letter(0, 1), 4);
        CHECK.same("print", lake.print(1, 0) == 0 ? 0 : 1, 1);
    }

    /** One after the other, each change is torn at each of its blocks, then done. */
    private static void everyBlock() {
        RecordLake lake = new RecordLake();
        String wide = Lakes.repeat(" ", 600, "") + "[\"null\",\"boolean\"]";
        for (int n = 0; n <= 4; n++) {
            lake.power(n);
            CHECK.same("register, power " + n, Lakes.register(lake, 0, wide), n < 4 ? RecordLake.LOST : 0);
            afterwards(lake, n < 4, "0 0 0 0");
        }
        byte[] rows = Lakes.join(Lakes.many(250, 0), Lakes.bytes(2, 1));
        for (int n = 0; n <= 3; n++) {
            lake.power(n);
            CHECK.same("load, power " + n, Lakes.load(lake, 0, 0, rows), n < 3 ? RecordLake.LOST : 251);
            afterwards(lake, n < 3, "1 1 0 0");
        }
        for (int n = 0; n <= 3; n++) {
            lake.power(n);
            CHECK.same("copy, power " + n, lake.copy(0, 0, 0), n < 3 ? RecordLake.LOST : 251);
            afterwards(lake, n < 3, "2 1 1 251");
        }
        for (int n = 0; n <= 4; n++) {
            lake.power(n);
            CHECK.same("compact, power " + n, lake.compact(0), n < 4 ? RecordLake.LOST : 1);
            afterwards(lake, n < 4, "3 1 2 502");
        }
        lake.read(0, 0, 501);
        CHECK.same("the last row", Lakes.out(lake), "2 1");
        lake.power(0);
        CHECK.same("clear, power 0", lake.clear(0), RecordLake.LOST);
        afterwards(lake, true, "2 1 1 502");
        lake.read(0, 0, 250);
        CHECK.same("a row in the middle", Lakes.out(lake), "2 1");
    }

    /** Files, versions of subject 0, its files of rows and its rows, when a change was lost. */
    private static void afterwards(RecordLake lake, boolean lost, String due) {
        if (lost) {
            int files = lake.start();
            CHECK.same("what was not done has not been",
                    files + " " + lake.count(0, 0) + " " + lake.count(0, 1) + " " + lake.count(0, 2), due);
        }
        lake.power(RecordLake.NONE);
    }

    /** The list goes on in turn, however often it has been torn. */
    private static void manyTimes() {
        RecordLake lake = new RecordLake();
        Lakes.register(lake, 0, "\"int\"");
        for (int i = 0; i < 30; i++) {
            for (int torn = i % 3; torn > 0; torn--) {
                lake.power(1);
                CHECK.same("the list is torn", Lakes.load(lake, 0, 0, 2), RecordLake.LOST);
                CHECK.same("start()", lake.start(), 1 + i);
            }
            CHECK.same("load", Lakes.load(lake, 0, 0, 2 * i), 1);
            CHECK.same("files()", lake.files(), 2 + i);
        }
        for (int i = 0; i < 30; i++) {
            lake.read(0, 0, i);
            CHECK.same("row " + i, lake.letter(0, 1), 2 * i);
        }
    }
}
