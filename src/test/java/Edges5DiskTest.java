/** Part 5 of the document, SUBJECTS, TABLES, THE DISK, but for POWER: each sentence that names an edge, on both of its sides. */
public final class Edges5DiskTest {
    private static final Check CHECK = new Check();

    public static void main(String[] args) {
        versions();
        blocks();
        fortyFiles();
        texts();
        places();
        filesThatGo();
        versionWants();
        rowsWant();
        most();
        full();
        compactForms();
        movedUp();
        compactBytes();
        compactPlace();
        copies();
        copyAnswers();
        copyEmpty();
        copyLooked();
        clears();
        registerAnswers();
        loadAnswers();
        CHECK.finish("Edges5DiskTest");
    }

    private static String blanks(int n) {
        return Lakes.repeat(" ", n, "");
    }

    /** A text that wants so many bytes. */
    private static String wide(int bytes) {
        return blanks(bytes - 5) + "\"int\"";
    }

    private static String record(String name, String fields) {
        return "{\"type\":\"record\",\"name\":\"" + name + "\",\"fields\":[" + fields + "]}";
    }

    /** Boolean rows for subject s, each a byte. */
    private static RecordLake booleans(int s) {
        RecordLake lake = new RecordLake();
        CHECK.same("register", Lakes.register(lake, s, "\"boolean\""), 0);
        return lake;
    }

    private static int load(RecordLake lake, int s, int rows) {
        return Lakes.load(lake, s, 0, Lakes.many(rows, 1));
    }

    private static void versions() {
        CHECK.says("SUBJECTS 0 .. 3 have VERSIONS 0, 1, .. (16 at most)");
        for (int s = 0; s < 4; s++) {
            RecordLake lake = new RecordLake();
            for (int v = 0; v < 16; v++) {
                CHECK.same("version " + v, Lakes.register(lake, s, "\"int\""), v);
            }
            CHECK.same("a 17th", Lakes.register(lake, s, "\"int\""), RecordLake.FULL);
            CHECK.same("versions", lake.count(s, 0), 16);
            CHECK.same("files()", lake.files(), 16);
            CHECK.same("load in the 16th", Lakes.load(lake, s, 15, 2), 1);
            int subject = s;
            Lakes.tape(lake, Lakes.bytes(2));
            CHECK.index("there is no 17th", () -> lake.load(subject, 16));
            CHECK.same("read as the 16th", lake.read(s, 15, 0), 1);
            CHECK.same("another subject's first", Lakes.register(lake, (s + 1) % 4, "\"int\""), 0);
        }
        CHECK.says("each fits in: all versions before it fit it.");
        RecordLake lake = new RecordLake();
        Lakes.register(lake, 0, "\"int\"");
        Lakes.register(lake, 0, "\"long\"");
        CHECK.same("the first one fits, the second does not", Lakes.register(lake, 0, "\"int\""), RecordLake.UNFIT);
        CHECK.same("neither fits", Lakes.register(lake, 0, "\"null\""), RecordLake.UNFIT);
        CHECK.same("both fit", Lakes.register(lake, 0, "[\"null\",\"long\"]"), 2);
        CHECK.same("the second fits, the third does not", Lakes.register(lake, 0, "\"long\""), RecordLake.UNFIT);
        CHECK.same("a subject without versions takes it", Lakes.register(lake, 1, "\"null\""), 0);
    }

    private static void blocks() {
        CHECK.says("THE DISK has 128 blocks of 256 bytes.");
        RecordLake lake = new RecordLake();
        // Seven files of 16 blocks and one of 13 leave one block of the 126 behind the lists.
        for (int i = 0; i < 7; i++) {
            CHECK.same("16 blocks", Lakes.register(lake, 0, wide(4096)), i);
        }
        CHECK.same("13 blocks", Lakes.register(lake, 0, wide(13 * 256)), 7);
        CHECK.same("a text of 257 bytes wants two", Lakes.register(lake, 0, wide(257)), RecordLake.FULL);
        CHECK.same("one of 256 bytes has the last", Lakes.register(lake, 0, wide(256)), 8);
        CHECK.same("the last block", lake.file(8, 2), 127);
        CHECK.same("there is no other", Lakes.register(lake, 0, wide(5)), RecordLake.FULL);
        RecordLake exact = new RecordLake();
        for (int i = 0; i < 7; i++) {
            Lakes.register(exact, 0, wide(4096));
        }
        CHECK.same("14 blocks are left, 15 wanted", Lakes.register(exact, 1, wide(14 * 256 + 1)), RecordLake.FULL);
        exact.power(13);
        CHECK.same("power goes at the disk's last block", Lakes.register(exact, 1, wide(14 * 256)), RecordLake.LOST);
        CHECK.same("start", exact.start(), 7);
        CHECK.same("14 wanted", Lakes.register(exact, 1, wide(14 * 256)), 0);
        CHECK.same("they end with the last", exact.file(7, 2) + 14, 128);
    }

    private static void fortyFiles() {
        CHECK.says("all FILES are in it, 40 at most");
        RecordLake lake = new RecordLake();
        Lakes.register(lake, 0, "\"int\"");
        for (int i = 1; i < 39; i++) {
            CHECK.same("load", Lakes.load(lake, 0, 0, 2), 1);
        }
        CHECK.same("files()", lake.files(), 39);
        String before = Snapshot.files(lake);
        // The 40th by each of the calls that bring one; torn, it has not been.
        Lakes.tape(lake, "\"int\"");
        lake.power(1);
        CHECK.same("the 40th is torn", lake.register(0), RecordLake.LOST);
        CHECK.same("start", lake.start(), 39);
        CHECK.same("the list", Snapshot.files(lake), before);
        CHECK.same("the 40th by copy", lake.copy(0, 0, 0), 38);
        CHECK.same("files()", lake.files(), 40);
        for (int what = 0; what < 5; what++) {
            CHECK.same("file(39, " + what + ")", lake.file(39, what), new int[] {0, 0, 41, 11 + 1 + 1 + 38 + 8, 38}[what]);
        }
        CHECK.index("file(40, 0)", () -> lake.file(40, 0));
        Lakes.tape(lake, "\"int\"");
        CHECK.same("a 41st by register", lake.register(0), RecordLake.FULL);
        CHECK.same("a 41st by copy", lake.copy(0, 0, 0), RecordLake.FULL);
        CHECK.same("a 41st by load", Lakes.load(lake, 0, 0, 2), RecordLake.FULL);
        before = Snapshot.files(lake);
        lake.power(1);
        CHECK.same("compact is torn at the list of 39", lake.compact(0), RecordLake.LOST);
        CHECK.same("start() reads 40", lake.start(), 40);
        CHECK.same("the list of 40", Snapshot.files(lake), before);
        CHECK.same("compact brings none more", lake.compact(0), 1);
        CHECK.same("files()", lake.files(), 39);
        CHECK.same("now there is room for one", Lakes.load(lake, 0, 0, 2), 1);
        CHECK.same("and for no other", Lakes.load(lake, 0, 0, 2), RecordLake.FULL);
        CHECK.same("clear", lake.clear(0), 77);
        CHECK.same("files()", lake.files(), 1);
    }

    private static void texts() {
        CHECK.says("of versions (their text as it was on the tape, without what is behind the value) and of rows.");
        RecordLake lake = new RecordLake();
        Lakes.register(lake, 0, "\t\r\n {\"type\" : \"int\"}\t\r\n ");
        CHECK.same("without what is behind", lake.file(0, 3), 20);
        long print = lake.print(0, 0);
        lake.power(1);
        Lakes.load(lake, 0, 0, 2);
        CHECK.same("start", lake.start(), 1);
        CHECK.same("it is read again", lake.print(0, 0), print);
        CHECK.same("and taken for the same", Lakes.register(lake, 0, "\"int\""), 1);
    }

    private static void places() {
        CHECK.says("the first place from block 2 on where as many as it wants (one at least) are in no file of the list");
        RecordLake lake = booleans(0);
        CHECK.same("the first file", lake.file(0, 2), 2);
        Lakes.register(lake, 1, "\"boolean\"");
        load(lake, 0, 1);
        load(lake, 1, 1);
        load(lake, 0, 400);
        load(lake, 1, 1);
        load(lake, 0, 700);
        load(lake, 1, 1);
        CHECK.same("clear", lake.clear(0), 1101);
        // Free: 4, 6 and 7, 9 to 11, and from 13 on.
        load(lake, 0, 900);
        CHECK.same("four blocks", lake.file(5, 2), 13);
        load(lake, 0, 600);
        CHECK.same("three", lake.file(6, 2), 9);
        load(lake, 0, 1);
        CHECK.same("one", lake.file(7, 2), 4);
        load(lake, 0, 234);
        CHECK.same("two, of 257 bytes", lake.file(8, 2), 6);
        load(lake, 0, 233);
        CHECK.same("one, of 256 bytes", lake.file(9, 2), 17);
        CHECK.same("the last place", load(lake, 0, 1), 1);
        CHECK.same("is behind all", lake.file(10, 2), 18);
    }

    private static void filesThatGo() {
        CHECK.says("(as it is before: files that go by this are still there)");
        RecordLake lake = booleans(0);
        load(lake, 0, 100);
        load(lake, 0, 100);
        // Blocks 2 to 4 are in use; all others but one are taken.
        for (int i = 0; i < 7; i++) {
            Lakes.register(lake, 1, wide(4096));
        }
        CHECK.same("ten blocks", Lakes.register(lake, 1, wide(10 * 256)), 7);
        CHECK.same("one block is left, which is enough for both", lake.compact(0), 1);
        CHECK.same("it is the last", lake.file(1, 2), 127);
        load(lake, 0, 100);
        load(lake, 0, 1);
        CHECK.same("files of rows", lake.count(0, 1), 3);
        CHECK.same("no block is left, though two would go", lake.compact(0), RecordLake.FULL);
        CHECK.same("files of rows", lake.count(0, 1), 3);
        CHECK.same("clear wants no place", lake.clear(0), 301);
    }

    private static void versionWants() {
        CHECK.says("A version's file wants the bytes of its text, from the beginning of the tape to the end of the value (blanks before it, too).");
        int[] bytes = {5, 6, 255, 256, 257, 512, 513, 4095, 4096};
        int[] blocks = {1, 1, 1, 1, 2, 2, 3, 16, 16};
        for (int i = 0; i < bytes.length; i++) {
            RecordLake lake = new RecordLake();
            String behind = bytes[i] < 4090 ? " \t\n\r" : "";
            CHECK.same("register", Lakes.register(lake, 0, wide(bytes[i]) + behind), 0);
            CHECK.same("bytes", lake.file(0, 3), bytes[i]);
            Lakes.register(lake, 0, "\"int\"");
            CHECK.same("blocks", lake.file(1, 2) - lake.file(0, 2), blocks[i]);
        }
    }

    private static void rowsWant() {
        CHECK.says("A file of rows wants: 11 bytes; VARINTS (of part 3) of how many rows and how many bytes they have, as NORMAL; the rows; 8 bytes.");
        // Rows, and bytes of all rows: both varints have a byte below 64, else two.
        int[][] due = {{1, 1, 22}, {63, 63, 84}, {64, 64, 87}, {65, 65, 88}};
        for (int[] one : due) {
            RecordLake lake = booleans(0);
            load(lake, 0, one[0]);
            CHECK.same("bytes of " + one[0] + " rows", lake.file(1, 3), one[2]);
            CHECK.same("rows", lake.file(1, 4), one[0]);
        }
        RecordLake lake = new RecordLake();
        Lakes.register(lake, 0, "\"string\"");
        Lakes.load(lake, 0, 0, Lakes.join(Lakes.varint(62), Lakes.many(62, 1)));
        CHECK.same("a row of 63 bytes", lake.file(1, 3), 11 + 1 + 1 + 63 + 8);
        Lakes.load(lake, 0, 0, Lakes.join(Lakes.varint(63), Lakes.many(63, 1)));
        CHECK.same("a row of 64 bytes", lake.file(2, 3), 11 + 1 + 2 + 64 + 8);
        // As NORMAL: wide varints do not count.
        Lakes.register(lake, 1, "\"int\"");
        byte[] row = Lakes.join(Lakes.many(9, 128), Lakes.bytes(0));
        Lakes.load(lake, 1, 0, Lakes.join(row, row, row));
        CHECK.same("three rows of a byte", lake.file(4, 3), 11 + 1 + 1 + 3 + 8);
    }

    private static void most() {
        CHECK.says("4096 bytes are the most.");
        RecordLake lake = booleans(0);
        CHECK.same("4073 rows of a byte", load(lake, 0, 4073), 4073);
        CHECK.same("bytes", lake.file(1, 3), 4096);
        CHECK.same("4074 rows", load(lake, 0, 4074), RecordLake.FULL);
        Lakes.register(lake, 1, "\"string\"");
        CHECK.same("a row of 4074 bytes", Lakes.load(lake, 1, 0, Lakes.join(Lakes.varint(4072), Lakes.many(4072, 1))), 1);
        CHECK.same("bytes: a varint for one row is a byte less", lake.file(3, 3), 4096);
        CHECK.same("a row of 4075 bytes", Lakes.load(lake, 1, 0, Lakes.join(Lakes.varint(4073), Lakes.many(4073, 1))), RecordLake.FULL);
        CHECK.same("read", lake.read(1, 0, 0), 4074);
        CHECK.says("(as NORMAL: so they count for FULL)");
        // Ten blocks of an item each, whose numbers are wide, are one block as NORMAL.
        Lakes.register(lake, 2, "{\"type\":\"array\",\"items\":\"bytes\"}");
        byte[] item = Lakes.join(Lakes.varint(403), Lakes.many(403, 1));
        byte[] rows = new byte[0];
        for (int i = 0; i < 10; i++) {
            rows = Lakes.join(rows, Lakes.bytes(130, 128, 0), item);
        }
        CHECK.same("a tape of 4081 bytes", Lakes.join(rows, Lakes.bytes(0)).length, 4081);
        CHECK.same("is a row of 4052", Lakes.load(lake, 2, 0, Lakes.join(rows, Lakes.bytes(0))), 1);
        CHECK.same("bytes", lake.file(5, 3), 11 + 1 + 2 + 4052 + 8);
        byte[] most = Lakes.join(Lakes.varint(4072), Lakes.many(4072, 1));
        Lakes.register(lake, 3, "\"string\"");
        CHECK.same("4096 bytes, though its tape has more", Lakes.load(lake, 3, 0, Lakes.join(Lakes.bytes(most[0] & 255, 128 | most[1], 128, 0),
                Lakes.many(4072, 1))), 1);
        CHECK.same("bytes", lake.file(7, 3), 4096);
        CHECK.same("4097 bytes", Lakes.load(lake, 3, 0, Lakes.join(Lakes.varint(4073), Lakes.many(4073, 1))), RecordLake.FULL);
    }

    private static void full() {
        CHECK.says("FULL: no such place, or more than 40 files, or more than 4096 bytes: nothing is written.");
        RecordLake lake = booleans(0);
        Lakes.register(lake, 1, "[\"null\",\"boolean\"]");
        load(lake, 0, 2037);
        Lakes.tape(lake, Lakes.many(4074, 1));
        String before = Snapshot.files(lake);
        lake.power(0);
        CHECK.same("too many bytes to load", lake.load(0, 0), RecordLake.FULL);
        CHECK.same("too many bytes to copy", lake.copy(0, 1, 0), RecordLake.FULL);
        CHECK.same("the list", Snapshot.files(lake), before);
        lake.end(4073);
        CHECK.same("what was set goes at the next block", lake.load(0, 0), RecordLake.LOST);
        CHECK.same("start", lake.start(), 3);
        CHECK.same("the list", Snapshot.files(lake), before);
    }

    private static void compactForms() {
        CHECK.says("of the first two files of a table next to each other in its row whose versions have the same PLAIN FORM");
        String r = record("R", "{\"name\":\"a\",\"type\":\"int\"#}");
        RecordLake lake = new RecordLake();
        Lakes.register(lake, 0, r.replace("#", ""));
        Lakes.register(lake, 0, " " + r.replace("#", ",\"default\":5"));
        Lakes.register(lake, 0, r.replace("#", "").replace("int", "long"));
        Lakes.register(lake, 1, r.replace("#", ""));
        Lakes.load(lake, 0, 2, 2);
        CHECK.same("one file alone", lake.compact(0), 0);
        Lakes.load(lake, 0, 0, 4);
        CHECK.same("two of other plain forms", lake.compact(0), 0);
        Lakes.load(lake, 0, 2, 6);
        CHECK.same("not next to each other", lake.compact(0), 0);
        Lakes.load(lake, 0, 1, 8);
        Lakes.load(lake, 1, 0, 10);
        Lakes.load(lake, 0, 0, 12);
        Lakes.load(lake, 0, 0, 14);
        CHECK.same("another subject's file between them is in another row", lake.compact(0), 1);
        CHECK.same("with the first one's version", lake.file(7, 1), 1);
        CHECK.same("in the first one's place", lake.file(7, 4), 2);
        CHECK.same("the first two alone", lake.count(0, 1), 5);
        CHECK.same("the third follows", lake.compact(0), 1);
        CHECK.same("rows", lake.file(7, 4), 3);
        CHECK.same("no more", lake.compact(0), 0);
        CHECK.same("the other subject has one", lake.compact(1), 0);
        // Plain forms of the same length are not the same.
        RecordLake other = new RecordLake();
        String e = "{\"type\":\"enum\",\"name\":\"E\",\"symbols\":[\"a\",\"b\"]}";
        Lakes.register(other, 0, e);
        Lakes.register(other, 0, e.replace("\"a\",\"b\"", "\"b\",\"a\""));
        Lakes.load(other, 0, 0, 0);
        Lakes.load(other, 0, 1, 0);
        CHECK.same("as long, but not the same", other.compact(0), 0);
        int[] due = {2, 4, 6, 8, 12, 14};
        for (int i = 0; i < 6; i++) {
            lake.read(0, 2, i);
            CHECK.same("row " + i, lake.letter(0, 1), due[i]);
        }
    }

    /** What comes behind a file that goes moves up by one, with all that is told of it. */
    private static void movedUp() {
        CHECK.says("stands in the first one's place");
        RecordLake lake = booleans(0);
        load(lake, 0, 63);
        load(lake, 0, 1);
        Lakes.register(lake, 1, "\"boolean\"");
        Lakes.register(lake, 1, "[\"null\",\"boolean\"]");
        Lakes.load(lake, 1, 1, 0, 2, 1);
        Lakes.load(lake, 1, 0, 1);
        CHECK.same("compact", lake.compact(0), 1);
        // 64 rows: both varints want a byte more than those of 63.
        int[][] due = {{0, 0, 2, 9, -1}, {0, 0, 9, 87, 64}, {1, 0, 5, 9, -1}, {1, 1, 6, 18, -1}, {1, 1, 7, 24, 2}, {1, 0, 8, 22, 1}};
        for (int k = 0; k < due.length; k++) {
            for (int what = 0; what < 5; what++) {
                CHECK.same("file(" + k + ", " + what + ")", lake.file(k, what), due[k][what]);
            }
        }
        lake.read(1, 1, 2);
        CHECK.same("a row of the last", Lakes.out(lake), "2 1");
        CHECK.same("clear", lake.clear(0), 64);
        for (int k = 1; k < 5; k++) {
            for (int what = 0; what < 5; what++) {
                CHECK.same("file(" + k + ", " + what + ") then", lake.file(k, what), due[k + 1][what]);
            }
        }
        CHECK.same("the last table", lake.clear(1), 3);
        CHECK.index("its rows are gone", () -> lake.read(1, 1, 0));
        CHECK.same("there are none to copy", lake.copy(1, 1, 1), RecordLake.EMPTY);
        CHECK.same("nor to compact", lake.compact(1), 0);
    }

    private static void compactBytes() {
        CHECK.says("(and that are not too many bytes together: else the next two)");
        RecordLake lake = booleans(0);
        load(lake, 0, 4072);
        load(lake, 0, 2);
        CHECK.same("4074 rows are 4097 bytes", lake.compact(0), 0);
        load(lake, 0, 3);
        CHECK.same("the next two", lake.compact(0), 1);
        CHECK.same("they are the second and the third", lake.file(2, 4), 5);
        CHECK.same("too many again", lake.compact(0), 0);
        RecordLake other = booleans(0);
        load(other, 0, 4072);
        load(other, 0, 1);
        load(other, 0, 1);
        CHECK.same("4073 rows are 4096 bytes", other.compact(0), 1);
        CHECK.same("bytes", other.file(1, 3), 4096);
        CHECK.same("one more does not go in", other.compact(0), 0);
    }

    private static void compactPlace() {
        CHECK.says("COMPACT: 1; 0 when there are no such two; FULL (no place); LOST; DOWN.");
        RecordLake lake = booleans(0);
        load(lake, 0, 230);
        load(lake, 0, 230);
        load(lake, 0, 1);
        for (int i = 0; i < 7; i++) {
            Lakes.register(lake, 1, wide(4096));
        }
        // Blocks 2 to 5 and 112 are in use: ten are left, and nine are taken.
        CHECK.same("nine blocks", Lakes.register(lake, 1, wide(9 * 256)), 7);
        lake.power(0);
        CHECK.same("the first two want two blocks", lake.compact(0), RecordLake.FULL);
        CHECK.same("nothing is written", lake.files(), 12);
        lake.power(RecordLake.NONE);
        CHECK.same("clear", lake.clear(0), 461);
        load(lake, 0, 230);
        load(lake, 0, 1);
        load(lake, 0, 1);
        CHECK.same("the first two want one block", lake.compact(0), 1);
        CHECK.same("rows", lake.file(9, 4), 231);
    }

    private static void copies() {
        CHECK.says("rows of a table are told again as a version of another subject (or the same): all of them in order are a new file of that table, behind its others.");
        RecordLake lake = booleans(0);
        Lakes.register(lake, 1, "[\"null\",\"boolean\"]");
        Lakes.load(lake, 0, 0, 1, 0);
        Lakes.load(lake, 1, 0, 0);
        Lakes.load(lake, 0, 0, 1);
        CHECK.same("copy", lake.copy(0, 1, 0), 3);
        CHECK.same("subject", lake.file(5, 0), 1);
        CHECK.same("rows", lake.file(5, 4), 3);
        String[] due = {"0", "2 1", "2 0", "2 1"};
        for (int i = 0; i < 4; i++) {
            lake.read(1, 0, i);
            CHECK.same("row " + i, Lakes.out(lake), due[i]);
        }
        CHECK.same("of the same", lake.copy(1, 1, 0), 4);
        CHECK.same("rows", lake.count(1, 2), 8);
        lake.read(1, 0, 7);
        CHECK.same("the last row", Lakes.out(lake), "2 1");
    }

    private static void copyAnswers() {
        CHECK.says("UNRESOLVED, FULL (one is told in more than 4096 bytes), by the first row that is one of both");
        String d = Lakes.repeat("d", 92, "");
        String w = record("R", "{\"name\":\"s\",\"type\":\"string\"},{\"name\":\"u\",\"type\":[\"null\",\"int\"]}");
        String r = record("R", "{\"name\":\"s\",\"type\":\"string\"},{\"name\":\"d\",\"type\":\"string\",\"default\":\"" + d + "\"},{\"name\":\"u\",\"type\":\"null\"}");
        byte[] unresolved = Lakes.bytes(0, 2, 0);
        for (int extra = 0; extra < 2; extra++) {
            // 4002 or 4003 bytes, 94 more by the default: 4096 or 4097.
            byte[] wide = Lakes.join(Lakes.varint(4000 + extra), Lakes.many(4000 + extra, 's'), Lakes.bytes(0));
            RecordLake lake = new RecordLake();
            Lakes.register(lake, 0, w);
            Lakes.register(lake, 1, r);
            CHECK.same("load", Lakes.load(lake, 0, 0, wide), 1);
            CHECK.same("no file holds it", lake.copy(0, 1, 0), RecordLake.FULL);
            CHECK.same("load", Lakes.load(lake, 0, 0, unresolved), 1);
            CHECK.same("a row of " + (4096 + extra) + " bytes before one that is unresolved", lake.copy(0, 1, 0),
                    extra == 0 ? RecordLake.UNRESOLVED : RecordLake.FULL);
            RecordLake back = new RecordLake();
            Lakes.register(back, 0, w);
            Lakes.register(back, 1, r);
            Lakes.load(back, 0, 0, unresolved);
            Lakes.load(back, 0, 0, wide);
            CHECK.same("behind it", back.copy(0, 1, 0), RecordLake.UNRESOLVED);
        }
    }

    private static void copyEmpty() {
        CHECK.says("EMPTY when there is none, or told again they have no byte");
        RecordLake lake = booleans(0);
        CHECK.same("there is none", lake.copy(0, 0, 0), RecordLake.EMPTY);
        Lakes.register(lake, 1, record("R", "{\"name\":\"a\",\"type\":\"int\"}"));
        Lakes.register(lake, 2, record("R", ""));
        Lakes.load(lake, 1, 0, 2, 4);
        lake.power(0);
        CHECK.same("they have no byte", lake.copy(1, 2, 0), RecordLake.EMPTY);
        CHECK.same("nothing is written", lake.files(), 4);
        Lakes.register(lake, 3, "[\"null\",\"int\"]");
        CHECK.same("start", lake.start(), 4);
        Lakes.register(lake, 3, "\"null\"");
        Lakes.register(lake, 3, "[\"null\",\"int\"]");
        Lakes.load(lake, 3, 1, 0, 2, 8);
        CHECK.same("one that is unresolved comes before", lake.copy(3, 3, 0), RecordLake.UNRESOLVED);
        CHECK.same("as it is", lake.copy(3, 3, 1), 2);
        // An empty table is EMPTY also where no file could come.
        RecordLake forty = new RecordLake();
        for (int i = 0; i < 40; i++) {
            Lakes.register(forty, i % 4, "\"int\"");
        }
        CHECK.same("EMPTY before FULL", forty.copy(0, 1, 0), RecordLake.EMPTY);
    }

    private static void copyLooked() {
        CHECK.says("FULL, also when LOOKING at them as they are told finds a FAULT (they lie too deep, or have too much)");
        // Items: 1500 and 500 of a default, or 501.
        String nulls = "{\"name\":\"a\",\"type\":{\"type\":\"array\",\"items\":\"null\"}}";
        for (int n = 500; n <= 501; n++) {
            RecordLake lake = new RecordLake();
            Lakes.register(lake, 0, record("R", nulls));
            Lakes.register(lake, 1, record("R", nulls + ",{\"name\":\"b\",\"type\":{\"type\":\"array\",\"items\":\"boolean\"},\"default\":["
                    + Lakes.repeat("true", n, ",") + "]}"));
            Lakes.load(lake, 0, 0, Lakes.join(Lakes.varint(1500), Lakes.bytes(0)));
            CHECK.same((1500 + n) + " items", lake.copy(0, 1, 0), n == 500 ? 1 : RecordLake.FULL);
            CHECK.same("of each row", Lakes.load(lake, 0, 0, Lakes.join(Lakes.varint(1500), Lakes.bytes(0))), 1);
            CHECK.same((1500 + n) + " items twice", lake.copy(0, 1, 0), n == 500 ? 2 : RecordLake.FULL);
        }
        // Data: a union for each item makes three of two: 1 + 3 n.
        for (int n = 1333; n <= 1334; n++) {
            String item = record("I", "{\"name\":\"n\",\"type\":\"null\"}");
            RecordLake lake = new RecordLake();
            Lakes.register(lake, 0, "{\"type\":\"array\",\"items\":" + item + "}");
            Lakes.register(lake, 1, "{\"type\":\"array\",\"items\":[" + item + "]}");
            Lakes.load(lake, 0, 0, Lakes.join(Lakes.varint(n), Lakes.bytes(0)));
            CHECK.same((1 + 3 * n) + " data", lake.copy(0, 1, 0), n == 1333 ? 1 : RecordLake.FULL);
        }
        // Depth: each level has a union more.
        String w = record("T", "{\"name\":\"in\",\"type\":{\"type\":\"array\",\"items\":\"T\"}}");
        for (int n = 10; n <= 11; n++) {
            RecordLake lake = new RecordLake();
            Lakes.register(lake, 0, w);
            Lakes.register(lake, 0, w.replace("\"items\":\"T\"", "\"items\":[\"T\"]"));
            Lakes.load(lake, 0, 0, Lakes.join(Lakes.many(n, 2), Lakes.many(n + 1, 0)));
            CHECK.same("it can be read", lake.read(0, 1, 0), 3 * n + 1);
            lake.power(0);
            CHECK.same("the last array lies in " + (3 * n + 1), lake.copy(0, 0, 1), n == 10 ? RecordLake.LOST : RecordLake.FULL);
        }
        deepBeforeUnresolved();
    }

    /** What cannot be told at all comes before what is too much as it is told, in whichever row. */
    private static void deepBeforeUnresolved() {
        String w = record("T", "{\"name\":\"in\",\"type\":{\"type\":\"array\",\"items\":\"T\"}},{\"name\":\"u\",\"type\":[\"null\",\"int\"]}");
        String r = w.replace("\"items\":\"T\"", "\"items\":[\"T\"]").replace("[\"null\",\"int\"]", "\"null\"");
        RecordLake lake = new RecordLake();
        Lakes.register(lake, 0, w);
        Lakes.register(lake, 1, r);
        // Eleven arrays of one item, and of each of the twelve records the array's end and the union's null.
        CHECK.same("load", Lakes.load(lake, 0, 0, Lakes.join(Lakes.many(11, 2), Lakes.many(24, 0))), 1);
        CHECK.same("too deep", lake.copy(0, 1, 0), RecordLake.FULL);
        Lakes.load(lake, 0, 0, 0, 2, 2);
        CHECK.same("and one behind it that is unresolved", lake.copy(0, 1, 0), RecordLake.UNRESOLVED);
    }

    private static void clears() {
        CHECK.says("All files of rows of a subject go from the list (which is written alone): how many rows; 0 when there are none (nothing is written)");
        RecordLake lake = booleans(0);
        Lakes.register(lake, 1, "\"boolean\"");
        load(lake, 0, 3);
        load(lake, 1, 5);
        load(lake, 0, 4);
        lake.power(0);
        CHECK.same("none in 2", lake.clear(2), 0);
        lake.power(1);
        CHECK.same("clear(0)", lake.clear(0), 7);
        CHECK.same("none now", lake.clear(0), 0);
        CHECK.same("files()", lake.files(), 3);
        CHECK.same("the other's", lake.file(2, 4), 5);
        CHECK.same("one block has been written, this is the next", lake.clear(1), RecordLake.LOST);
        CHECK.same("start", lake.start(), 3);
        CHECK.same("clear(1)", lake.clear(1), 5);
    }

    private static void registerAnswers() {
        CHECK.says("minus its FAULT; UNFIT (a version before does not fit it); else FULL (also when there are 16); LOST; DOWN.");
        RecordLake lake = new RecordLake();
        for (int v = 0; v < 16; v++) {
            Lakes.register(lake, 0, "\"int\"");
        }
        lake.power(0);
        CHECK.same("a fault before all", Lakes.register(lake, 0, "\"foo\""), -3);
        CHECK.same("UNFIT before FULL", Lakes.register(lake, 0, "\"null\""), RecordLake.UNFIT);
        CHECK.same("FULL before LOST", Lakes.register(lake, 0, "\"int\""), RecordLake.FULL);
        CHECK.same("LOST", Lakes.register(lake, 1, "\"int\""), RecordLake.LOST);
        Lakes.tape(lake, "\"foo\"");
        CHECK.same("DOWN before a fault", lake.register(0), RecordLake.DOWN);
        CHECK.says("(With a fault, UNFIT, FULL, DOWN the tape stays; with LOST it is empty.)");
        CHECK.same("start", lake.start(), 16);
        String[] texts = {"\"foo\"", "\"null\"", "\"int\""};
        int[] due = {-3, RecordLake.UNFIT, RecordLake.FULL};
        for (int i = 0; i < 3; i++) {
            Lakes.tape(lake, texts[i]);
            CHECK.same("register", lake.register(0), due[i]);
            CHECK.same("it stays", Check.thrownBy(() -> lake.end(5)), "nothing");
        }
        CHECK.same("register", Lakes.register(lake, 1, "\"int\""), 0);
        CHECK.argument("it is empty", () -> lake.end(1));
        lake.power(0);
        CHECK.same("LOST", Lakes.register(lake, 1, "\"int\""), RecordLake.LOST);
        CHECK.argument("it is empty", () -> lake.end(1));
        Lakes.tape(lake, "\"int\"");
        CHECK.same("DOWN", lake.register(1), RecordLake.DOWN);
        CHECK.same("it stays", Check.thrownBy(() -> lake.end(5)), "nothing");
    }

    private static void loadAnswers() {
        CHECK.says("how many rows; what look tells; EMPTY also for none; FULL; LOST; DOWN (the tape stays with all but a number of rows and LOST).");
        RecordLake lake = booleans(0);
        for (int i = 1; i < 40; i++) {
            load(lake, 0, 1);
        }
        lake.power(0);
        Lakes.tape(lake, Lakes.bytes(1, 2));
        CHECK.same("a fault before FULL", lake.load(0, 0), -3);
        CHECK.same("it stays", Check.thrownBy(() -> lake.end(2)), "nothing");
        lake.end(0);
        CHECK.same("EMPTY before FULL", lake.load(0, 0), RecordLake.EMPTY);
        Lakes.tape(lake, Lakes.bytes(1, 1));
        CHECK.same("FULL before LOST", lake.load(0, 0), RecordLake.FULL);
        CHECK.same("it stays", Check.thrownBy(() -> lake.end(2)), "nothing");
        CHECK.same("LOST", lake.compact(0), RecordLake.LOST);
        CHECK.same("DOWN", lake.load(0, 0), RecordLake.DOWN);
        CHECK.same("it stays", Check.thrownBy(() -> lake.end(2)), "nothing");
        CHECK.same("start", lake.start(), 40);
        CHECK.same("compact", lake.compact(0), 1);
        CHECK.same("two rows", lake.load(0, 0), 2);
        CHECK.argument("it is empty", () -> lake.end(1));
        lake.clear(0);
        lake.power(1);
        Lakes.tape(lake, Lakes.bytes(1, 1));
        CHECK.same("LOST", lake.load(0, 0), RecordLake.LOST);
        CHECK.argument("it is empty", () -> lake.end(1));
    }
}
