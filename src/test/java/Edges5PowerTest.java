import java.util.function.ToIntFunction;

/** Part 5 of the document, POWER, and promises 20 and 21: each sentence that names an edge, on both of its sides. */
public final class Edges5PowerTest {
    private static final Check CHECK = new Check();

    public static void main(String[] args) {
        arguments();
        nextBlock();
        thousandth();
        setBefore();
        written();
        whatStays();
        gone();
        newestWhole();
        sameListAgain();
        tornOverAndOver();
        everyLength();
        twins();
        start();
        CHECK.finish("Edges5PowerTest");
    }

    private static String wide(int bytes) {
        return Lakes.repeat(" ", bytes - 9, "") + "\"boolean\"";
    }

    private static RecordLake lake(int files) {
        RecordLake lake = new RecordLake();
        if (files > 0) {
            Lakes.register(lake, 0, "\"boolean\"");
        }
        for (int i = 1; i < files; i++) {
            Lakes.load(lake, 0, 0, Lakes.many(i, i % 2));
        }
        return lake;
    }

    private static void arguments() {
        CHECK.says("IllegalArgumentException when n is not NONE .. 1000.");
        RecordLake lake = new RecordLake();
        for (int n : new int[] {RecordLake.NONE, 0, 1, 999, 1000}) {
            CHECK.same("power(" + n + ")", Check.thrownBy(() -> lake.power(n)), "nothing");
        }
        for (int n : new int[] {-2, 1001, Integer.MIN_VALUE, Integer.MAX_VALUE}) {
            CHECK.argument("power(" + n + ")", () -> lake.power(n));
        }
        lake.power(0);
        CHECK.argument("power(1001)", () -> lake.power(1001));
        CHECK.same("what throws sets nothing", Lakes.register(lake, 0, "\"int\""), RecordLake.LOST);
        CHECK.argument("power(1001) while DOWN", () -> lake.power(1001));
    }

    private static void nextBlock() {
        CHECK.says("POWER may be set to go at the n-th block that is written from then on (0: the next one)");
        for (int n = 0; n < 12; n++) {
            RecordLake lake = lake(1);
            lake.power(n);
            // Each load writes a block and the list.
            for (int i = 0; i < n / 2; i++) {
                CHECK.same("load " + i + " with power " + n, Lakes.load(lake, 0, 0, 1), 1);
            }
            CHECK.same("power(" + n + ") goes", Lakes.load(lake, 0, 0, 1), RecordLake.LOST);
            CHECK.same("start", lake.start(), 1 + n / 2);
        }
        CHECK.says("it stays, if n is NONE");
        RecordLake lake = lake(1);
        lake.power(0);
        lake.power(RecordLake.NONE);
        for (int i = 0; i < 30; i++) {
            CHECK.same("load", Lakes.load(lake, 0, 0, 1), 1);
        }
    }

    /** A file of 16 blocks by copy and its list, and the list by clear: 18 blocks a round. */
    private static void thousandth() {
        CHECK.says("Power goes at block n from now on");
        for (int n = 998; n <= 1000; n++) {
            RecordLake lake = lake(1);
            Lakes.load(lake, 0, 0, Lakes.many(4073, 1));
            Lakes.register(lake, 1, "\"boolean\"");
            lake.power(n);
            int blocks = 0;
            for (int i = 0; i < 55; i++) {
                CHECK.same("copy", lake.copy(0, 1, 0), 4073);
                CHECK.same("clear", lake.clear(1), 4073);
                blocks += 18;
            }
            CHECK.same("blocks", blocks, 990);
            // 990 have been written: blocks 998, 999 and 1000 are the next file's.
            CHECK.same("power(" + n + ")", lake.copy(0, 1, 0), RecordLake.LOST);
            CHECK.same("start", lake.start(), 3);
            lake.power(n);
            CHECK.same("it counts from now on", lake.copy(0, 1, 0), 4073);
        }
        RecordLake lake = lake(2);
        lake.power(1000);
        for (int i = 0; i < 100; i++) {
            CHECK.same("copy", lake.copy(0, 0, 0), 1);
            CHECK.same("clear", lake.clear(0), 2);
            CHECK.same("load", Lakes.load(lake, 0, 0, 1), 1);
        }
        // 2 + 1 + 2 each: 500 blocks.
        CHECK.same("it has not gone", lake.files(), 2);
    }

    private static void setBefore() {
        CHECK.says("What was set before does not count.");
        RecordLake lake = lake(1);
        lake.power(0);
        lake.power(2);
        CHECK.same("two blocks", Lakes.load(lake, 0, 0, 1), 1);
        lake.power(3);
        CHECK.same("two more", Lakes.load(lake, 0, 0, 1), 1);
        CHECK.same("one, and the list is torn", Lakes.load(lake, 0, 0, 1), RecordLake.LOST);
        CHECK.same("start", lake.start(), 3);
        CHECK.says("no power is set any more");
        for (int i = 0; i < 20; i++) {
            CHECK.same("load", Lakes.load(lake, 0, 0, 1), 1);
        }
        CHECK.says("(Also while DOWN: it is set then for what is written behind start().)");
        lake.power(0);
        CHECK.same("LOST", lake.clear(0), RecordLake.LOST);
        lake.power(0);
        CHECK.same("start() writes nothing", lake.start(), 23);
        CHECK.same("LOST", lake.clear(0), RecordLake.LOST);
        lake.power(0);
        lake.power(RecordLake.NONE);
        lake.start();
        CHECK.same("it was taken back", lake.clear(0), 22);
        lake.power(1);
        CHECK.same("LOST", Lakes.load(lake, 0, 0, 1), RecordLake.LOST);
        lake.power(1);
        lake.start();
        CHECK.same("the first block is written", Lakes.load(lake, 0, 0, 1), RecordLake.LOST);
    }

    /** How many blocks a change writes: with so many it is done, with one less it is lost. */
    private static void writes(String what, int blocks, ToIntFunction<RecordLake> make, ToIntFunction<RecordLake> change, int due) {
        for (int n = 0; n <= blocks; n++) {
            RecordLake lake = new RecordLake();
            make.applyAsInt(lake);
            String before = Snapshot.of(lake);
            lake.power(n);
            CHECK.same(what + " with power " + n, change.applyAsInt(lake), n < blocks ? RecordLake.LOST : due);
            if (n < blocks) {
                CHECK.same("DOWN", lake.files(), RecordLake.DOWN);
                lake.start();
                CHECK.same("what was not done has not been", Snapshot.of(lake), before);
            } else {
                CHECK.no("it is done", Snapshot.of(lake).equals(before));
                lake.power(0);
                Lakes.register(lake, 3, "\"int\"");
                String done = Snapshot.of(withoutPower(make, change));
                lake.start();
                CHECK.same("what was done stays", Snapshot.of(lake), done);
            }
        }
    }

    private static RecordLake withoutPower(ToIntFunction<RecordLake> make, ToIntFunction<RecordLake> change) {
        RecordLake lake = new RecordLake();
        make.applyAsInt(lake);
        change.applyAsInt(lake);
        return lake;
    }

    private static void written() {
        CHECK.says("WHAT CHANGES THINGS writes all blocks of its new file, then the list; then it is done.");
        for (int blocks : new int[] {1, 2, 3, 16}) {
            writes("register", blocks + 1, lake -> 0, lake -> Lakes.register(lake, 0, wide(256 * blocks)), 0);
        }
        ToIntFunction<RecordLake> one = lake -> Lakes.register(lake, 0, "\"boolean\"");
        writes("load of 256 bytes", 2, one, lake -> Lakes.load(lake, 0, 0, Lakes.many(233, 1)), 233);
        writes("load of 257 bytes", 3, one, lake -> Lakes.load(lake, 0, 0, Lakes.many(234, 1)), 234);
        ToIntFunction<RecordLake> two = lake -> one.applyAsInt(lake) + Lakes.load(lake, 0, 0, Lakes.many(150, 1))
                + Lakes.load(lake, 0, 0, Lakes.many(83, 0));
        writes("copy of 256 bytes", 2, two, lake -> lake.copy(0, 0, 0), 233);
        writes("compact to 256 bytes", 2, two, lake -> lake.compact(0), 1);
        ToIntFunction<RecordLake> more = lake -> one.applyAsInt(lake) + Lakes.load(lake, 0, 0, Lakes.many(150, 1))
                + Lakes.load(lake, 0, 0, Lakes.many(84, 0));
        writes("copy of 257 bytes", 3, more, lake -> lake.copy(0, 0, 0), 234);
        writes("compact to 257 bytes", 3, more, lake -> lake.compact(0), 1);
        writes("clear", 1, more, lake -> lake.clear(0), 234);
    }

    private static void whatStays() {
        CHECK.says("(the plain form, OUT, place stay, and so does the tape, but that register and load empty it with LOST, too)");
        for (int kind = 0; kind < 5; kind++) {
            RecordLake lake = lake(3);
            lake.read(0, 0, 1);
            Lakes.tape(lake, "\"int\" ?");
            lake.schema();
            Lakes.tape(lake, kind == 0 ? Lakes.bytes(wide(9)) : Lakes.bytes(1, 1));
            if (kind != 0) {
                Lakes.tape(lake, "[\"int\"]");
                lake.schema();
                Lakes.tape(lake, Lakes.bytes(1, 1, 7));
                lake.look(0, 0);
                lake.end(2);
            }
            lake.power(0);
            int[] answers = {kind == 0 ? lake.register(1) : 0, kind == 1 ? lake.load(0, 0) : 0, kind == 2 ? lake.copy(0, 0, 0) : 0,
                kind == 3 ? lake.compact(0) : 0, kind == 4 ? lake.clear(0) : 0};
            CHECK.same("LOST", answers[kind], RecordLake.LOST);
            CHECK.same("the plain form", Lakes.plain(lake), kind == 0 ? "\"boolean\"" : "[\"int\"]");
            CHECK.same("OUT", Lakes.out(lake), "0");
            // A register or load that told no fault has no place; the others leave it.
            CHECK.same("place()", lake.place(), kind < 2 ? RecordLake.NONE : 2);
            if (kind < 2) {
                CHECK.argument("the tape is empty", () -> lake.end(1));
            } else {
                CHECK.same("the tape", Check.thrownBy(() -> lake.end(2)), "nothing");
                CHECK.same("start", lake.start(), 3);
                CHECK.same("its bytes", lake.load(0, 0), 2);
            }
        }
    }

    private static void gone() {
        CHECK.says("all versions and tables in memory are gone");
        RecordLake lake = lake(3);
        lake.power(0);
        CHECK.same("LOST", lake.clear(0), RecordLake.LOST);
        CHECK.says("the call answers LOST, and all are DOWN until start()");
        CHECK.same("files()", lake.files(), RecordLake.DOWN);
        CHECK.same("count", lake.count(0, 0), RecordLake.DOWN);
        CHECK.same("once more", lake.clear(0), RecordLake.DOWN);
        CHECK.same("start()", lake.start(), 3);
        CHECK.same("count", lake.count(0, 0), 1);
    }

    private static void newestWhole() {
        CHECK.says("then all is as the newest list that is whole tells: what was not done has not been.");
        RecordLake lake = new RecordLake();
        lake.power(1);
        CHECK.same("the first list of all is torn", Lakes.register(lake, 0, "\"int\""), RecordLake.LOST);
        CHECK.same("there is none that is whole", lake.start(), 0);
        CHECK.same("versions", lake.count(0, 0), 0);
        CHECK.same("the first list", Lakes.register(lake, 0, "\"int\""), 0);
        lake.power(1);
        CHECK.same("the second is torn", Lakes.register(lake, 1, "\"int\""), RecordLake.LOST);
        CHECK.same("the first is whole", lake.start(), 1);
        CHECK.same("the second", Lakes.register(lake, 1, "\"int\""), 0);
        lake.power(1);
        CHECK.same("the third is torn", Lakes.register(lake, 2, "\"int\""), RecordLake.LOST);
        CHECK.same("the second is newer than what the third was written over", lake.start(), 2);
        lake.power(0);
        CHECK.same("a file's block is torn", Lakes.register(lake, 2, "\"int\""), RecordLake.LOST);
        CHECK.same("both lists are whole: the newer one", lake.start(), 2);
    }

    /** A list as one was that stood in the same block: only which list it is has changed. */
    private static void sameListAgain() {
        CHECK.says("the newest list that is whole");
        for (int rounds = 1; rounds <= 4; rounds++) {
            RecordLake lake = lake(2);
            for (int i = 0; i < rounds; i++) {
                CHECK.same("clear", lake.clear(0), 1);
                lake.power(1);
                CHECK.same("the same file once more, but the list is torn", Lakes.load(lake, 0, 0, 1), RecordLake.LOST);
                CHECK.same("start() has the list without it", lake.start(), 1);
                CHECK.same("load", Lakes.load(lake, 0, 0, 1), 1);
                lake.power(0);
                CHECK.same("cleared, but the list is torn", lake.clear(0), RecordLake.LOST);
                CHECK.same("start() has the list with it", lake.start(), 2);
            }
        }
    }

    private static void tornOverAndOver() {
        CHECK.says("that block is torn");
        RecordLake lake = lake(3);
        for (int i = 0; i < 20; i++) {
            lake.power(0);
            CHECK.same("LOST", lake.clear(0), RecordLake.LOST);
            CHECK.same("start()", lake.start(), 3);
        }
        CHECK.same("rows", lake.count(0, 2), 3);
        // Torn by another change each time, over the same block.
        for (int i = 0; i < 20; i++) {
            lake.power(i % 4 == 0 ? 0 : 1);
            int[] answers = {i % 4 == 0 ? lake.clear(0) : 0, i % 4 == 1 ? lake.compact(0) : 0, i % 4 == 2 ? lake.copy(0, 0, 0) : 0,
                i % 4 == 3 ? Lakes.register(lake, 1, "\"int\"") : 0};
            CHECK.same("LOST", answers[i % 4], RecordLake.LOST);
            CHECK.same("start()", lake.start(), 3);
        }
        CHECK.same("clear", lake.clear(0), 3);
    }

    /** Lists of every length: what is torn grows, shrinks to one file, or has one less. */
    private static void everyLength() {
        CHECK.says("Blocks 0 and 1 hold the LIST in turn: a block is enough for it");
        for (int files = 2; files <= 40; files++) {
            RecordLake lake = lake(files);
            String before = Snapshot.files(lake);
            lake.power(0);
            CHECK.same("clear", lake.clear(0), RecordLake.LOST);
            CHECK.same("start()", lake.start(), files);
            CHECK.same("the list", Snapshot.files(lake), before);
            lake.power(1);
            CHECK.same("load", Lakes.load(lake, 0, 0, 1), files < 40 ? RecordLake.LOST : RecordLake.FULL);
            if (files < 40) {
                CHECK.same("start()", lake.start(), files);
            }
            CHECK.same("the list", Snapshot.files(lake), before);
            lake.power(1);
            CHECK.same("compact", lake.compact(0), files > 2 ? RecordLake.LOST : 0);
            if (files > 2) {
                CHECK.same("start()", lake.start(), files);
            }
            CHECK.same("the list", Snapshot.files(lake), before);
        }
    }

    /** Two objects make the same changes: one is torn at each block of each of them before it makes it. */
    private static void twins() {
        CHECK.says("what was not done has not been");
        RecordLake plain = new RecordLake();
        RecordLake torn = new RecordLake();
        for (int i = 0; i < 90; i++) {
            int step = i;
            int blocks = 0;
            boolean isLost = true;
            String before = Snapshot.files(torn);
            while (isLost && blocks < 20) {
                torn.power(blocks);
                isLost = change(torn, step) == RecordLake.LOST;
                if (isLost) {
                    torn.start();
                    CHECK.same("step " + i + " torn at block " + blocks, Snapshot.files(torn), before);
                }
                blocks++;
            }
            torn.power(RecordLake.NONE);
            change(plain, step);
            CHECK.same("step " + i, Snapshot.files(torn), Snapshot.files(plain));
        }
        CHECK.same("all of it", Snapshot.of(torn), Snapshot.of(plain));
    }

    private static int change(RecordLake lake, int step) {
        int s = step / 4 % 3;
        switch (step < 3 ? 0 : step % 11) {
            case 0:
                return Lakes.register(lake, step < 3 ? step : s, wide(9 + step * 7 % 600));
            case 1:
            case 2:
            case 4:
            case 5:
            case 8:
                return Lakes.load(lake, s, 0, Lakes.many(1 + step * 37 % 500, step % 2));
            case 3:
            case 7:
                return lake.copy(s, (s + step) % 3, 0);
            case 10:
                return lake.clear(step % 3);
            default:
                return lake.compact(s);
        }
    }

    private static void start() {
        CHECK.says("All is read from the disk again: how many files the list has. IllegalStateException when it is not DOWN.");
        RecordLake lake = new RecordLake();
        CHECK.state("a new one", lake::start);
        Lakes.register(lake, 0, "\"int\"");
        lake.power(0);
        CHECK.state("power is set, but has not gone", lake::start);
        CHECK.same("LOST", Lakes.load(lake, 0, 0, 2), RecordLake.LOST);
        CHECK.same("start()", lake.start(), 1);
        CHECK.state("once more", lake::start);
        CHECK.same("what throws changes nothing", lake.files(), 1);
    }
}
