/** Promises 18 and 19: the files of the list, in the order in which they came, and where they lie. */
public final class P18FileTest {
    private static final Check CHECK = new Check();

    private static void file(RecordLake lake, int k, int... due) {
        for (int what = 0; what < 5; what++) {
            CHECK.same("file(" + k + ", " + what + ")", lake.file(k, what), due[what]);
        }
    }

    public static void main(String[] args) {
        order();
        gaps();
        CHECK.finish("P18FileTest");
    }

    private static void order() {
        RecordLake lake = new RecordLake();
        Lakes.register(lake, 3, " \"int\" ");
        Lakes.load(lake, 3, 0, 2, 4);
        Lakes.register(lake, 3, "\"long\"");
        Lakes.register(lake, 0, "\"boolean\"");
        Lakes.load(lake, 0, 0, Lakes.many(235, 1));
        Lakes.load(lake, 3, 1, 2);
        CHECK.same("files()", lake.files(), 6);
        file(lake, 0, 3, 0, 2, 6, RecordLake.NONE);
        file(lake, 1, 3, 0, 3, 23, 2);
        file(lake, 2, 3, 1, 4, 6, RecordLake.NONE);
        file(lake, 3, 0, 0, 5, 9, RecordLake.NONE);
        file(lake, 4, 0, 0, 6, 258, 235);
        file(lake, 5, 3, 1, 8, 22, 1);
        CHECK.index("file(6, 0)", () -> lake.file(6, 0));
        CHECK.index("file(-1, 0)", () -> lake.file(-1, 0));
        CHECK.argument("file(0, 5)", () -> lake.file(0, 5));
        CHECK.argument("file(0, -1)", () -> lake.file(0, -1));
        CHECK.index("of both the one named first", () -> lake.file(6, 5));
        lake.power(0);
        lake.clear(0);
        CHECK.same("files() while DOWN", lake.files(), RecordLake.DOWN);
        CHECK.same("file(0, 0) while DOWN", lake.file(0, 0), RecordLake.DOWN);
        CHECK.same("file(99, 4) while DOWN", lake.file(99, 4), RecordLake.DOWN);
        CHECK.argument("file(0, 5) while DOWN", () -> lake.file(0, 5));
        CHECK.argument("file(99, -1) while DOWN", () -> lake.file(99, -1));
        CHECK.same("start()", lake.start(), 6);
        file(lake, 4, 0, 0, 6, 258, 235);
        file(lake, 5, 3, 1, 8, 22, 1);
    }

    /** The first place that is wide enough, not the first free block. */
    private static void gaps() {
        RecordLake lake = new RecordLake();
        Lakes.register(lake, 0, "\"boolean\"");
        Lakes.register(lake, 1, "\"boolean\"");
        Lakes.load(lake, 0, 0, 1);
        Lakes.load(lake, 1, 0, 1);
        Lakes.load(lake, 0, 0, Lakes.many(400, 1));
        Lakes.load(lake, 1, 0, 1);
        lake.clear(0);
        // Blocks 4, 6 and 7 are free, and from 9 on.
        Lakes.load(lake, 0, 0, Lakes.many(700, 1));
        CHECK.same("three blocks", lake.file(4, 2), 9);
        Lakes.load(lake, 0, 0, Lakes.many(300, 1));
        CHECK.same("two blocks", lake.file(5, 2), 6);
        Lakes.load(lake, 0, 0, 1);
        CHECK.same("one block", lake.file(6, 2), 4);
        Lakes.load(lake, 0, 0, 1);
        CHECK.same("behind all", lake.file(7, 2), 12);
        // 256 bytes are one block, 257 two: 11 + 2 + 2 + n + 8.
        RecordLake edge = new RecordLake();
        Lakes.register(edge, 0, "\"boolean\"");
        Lakes.load(edge, 0, 0, Lakes.many(233, 1));
        CHECK.same("bytes", edge.file(1, 3), 256);
        Lakes.load(edge, 0, 0, Lakes.many(234, 1));
        CHECK.same("bytes", edge.file(2, 3), 257);
        CHECK.same("behind one block", edge.file(2, 2), 4);
        Lakes.load(edge, 0, 0, 1);
        CHECK.same("behind two", edge.file(3, 2), 6);
    }
}
