/** Promise 12: all files of rows of a subject go from the list. */
public final class P12ClearTest {
    public static void main(String[] args) {
        Check check = new Check();
        RecordLake lake = new RecordLake();
        check.index("no such subject", () -> lake.clear(4));
        check.index("no such subject", () -> lake.clear(-1));
        Lakes.register(lake, 0, "\"int\"");
        Lakes.register(lake, 1, "\"int\"");
        lake.power(0);
        check.same("none: nothing is written", lake.clear(0), 0);
        check.same("not DOWN", lake.files(), 2);
        lake.power(RecordLake.NONE);
        Lakes.load(lake, 0, 0, 2, 4);
        Lakes.load(lake, 1, 0, 6);
        Lakes.load(lake, 0, 0, 8);
        lake.power(0);
        check.same("the list is torn", lake.clear(0), RecordLake.LOST);
        check.same("DOWN", lake.clear(0), RecordLake.DOWN);
        check.same("DOWN, also for none", lake.clear(3), RecordLake.DOWN);
        check.index("but for subjects", () -> lake.clear(4));
        check.same("start", lake.start(), 5);
        check.same("rows", lake.count(0, 2), 3);
        lake.power(1);
        check.same("one block alone is written", lake.clear(0), 3);
        check.same("files of rows", lake.count(0, 1), 0);
        check.same("versions stay", lake.count(0, 0), 1);
        check.same("files", lake.files(), 3);
        check.same("the other's rows", lake.count(1, 2), 1);
        check.same("the other's file", lake.file(2, 0), 1);
        check.index("no row", () -> lake.read(0, 0, 0));
        check.same("again", lake.clear(0), 0);
        check.same("the power that is left goes at the next", Lakes.load(lake, 0, 0, 2), RecordLake.LOST);
        check.same("start", lake.start(), 3);
        Lakes.load(lake, 0, 0, 2);
        check.same("blocks are free again", lake.file(3, 2), 4);
        check.finish("P12ClearTest");
    }
}
