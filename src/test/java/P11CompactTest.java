/** Promise 11: two files of a table next to each other become one. */
public final class P11CompactTest {
    private static final Check CHECK = new Check();

    public static void main(String[] args) {
        two();
        forms();
        tooLong();
        noPlace();
        power();
        CHECK.finish("P11CompactTest");
    }

    private static String rows(RecordLake lake, int subject, int version) {
        StringBuilder all = new StringBuilder();
        for (int i = 0; i < lake.count(subject, 2); i++) {
            lake.read(subject, version, i);
            all.append(i == 0 ? "" : ",").append(Lakes.out(lake));
        }
        return all.toString();
    }

    private static void two() {
        RecordLake lake = new RecordLake();
        CHECK.index("no such subject", () -> lake.compact(4));
        CHECK.index("no such subject", () -> lake.compact(-1));
        Lakes.register(lake, 0, "\"int\"");
        CHECK.same("no file of rows", lake.compact(0), 0);
        Lakes.load(lake, 0, 0, 2, 4);
        CHECK.same("one", lake.compact(0), 0);
        Lakes.register(lake, 1, "\"int\"");
        Lakes.load(lake, 1, 0, 20);
        Lakes.load(lake, 0, 0, 6);
        Lakes.load(lake, 0, 0, 8);
        CHECK.same("compact", lake.compact(0), 1);
        CHECK.same("rows in order", rows(lake, 0, 0), "2,4,6,8");
        CHECK.same("files", lake.files(), 5);
        CHECK.same("the new one is where the first was", lake.file(1, 4), 3);
        CHECK.same("its subject", lake.file(1, 0), 0);
        CHECK.same("its bytes", lake.file(1, 3), 11 + 1 + 1 + 3 + 8);
        CHECK.same("its block: those that go are still there", lake.file(1, 2), 8);
        CHECK.same("the other subject's version", lake.file(2, 0), 1);
        CHECK.same("the other subject's rows", lake.file(3, 4), 1);
        CHECK.same("the last one", lake.file(4, 4), 1);
        CHECK.same("compact again", lake.compact(0), 1);
        CHECK.same("its block: the first one's is free", lake.file(1, 2), 3);
        CHECK.same("rows in order", rows(lake, 0, 0), "2,4,6,8");
        CHECK.same("no more", lake.compact(0), 0);
        CHECK.same("of the other", lake.compact(1), 0);
    }

    /** Versions of the same plain form: defaults do not count, but where else they differ does. */
    private static void forms() {
        String r = "{\"type\":\"record\",\"name\":\"R\",\"fields\":[{\"name\":\"a\",\"type\":\"int\"}]}";
        RecordLake lake = new RecordLake();
        Lakes.register(lake, 0, r);
        Lakes.register(lake, 0, r.replace("\"type\":\"int\"", "\"type\":\"long\""));
        Lakes.register(lake, 0, " " + r.replace("\"int\"", "{\"type\":\"long\"},\"default\":3"));
        Lakes.load(lake, 0, 0, 2);
        Lakes.load(lake, 0, 1, 4);
        Lakes.load(lake, 0, 2, 6);
        CHECK.same("the second and the third", lake.compact(0), 1);
        CHECK.same("the first one's version", lake.file(4, 1), 1);
        CHECK.same("the first file stays", lake.file(3, 1), 0);
        CHECK.same("rows", rows(lake, 0, 2), "2,4,6");
        CHECK.same("no more: int is not long", lake.compact(0), 0);
        Lakes.load(lake, 0, 0, 8);
        CHECK.same("only next to each other", lake.compact(0), 0);
        // As long, but not the same.
        RecordLake other = new RecordLake();
        Lakes.register(other, 0, "{\"type\":\"enum\",\"name\":\"E\",\"symbols\":[\"a\",\"b\"]}");
        Lakes.register(other, 0, "{\"type\":\"enum\",\"name\":\"E\",\"symbols\":[\"b\",\"a\"]}");
        Lakes.load(other, 0, 0, 0);
        Lakes.load(other, 0, 1, 0);
        CHECK.same("other symbols", other.compact(0), 0);
        shifted();
    }

    /** What comes behind the file that goes moves up, with all that is told of it. */
    private static void shifted() {
        RecordLake lake = new RecordLake();
        Lakes.register(lake, 0, "\"int\"");
        Lakes.load(lake, 0, 0, 2);
        Lakes.load(lake, 0, 0, 4);
        Lakes.register(lake, 1, "\"boolean\"");
        Lakes.register(lake, 1, "[\"null\",\"boolean\"]");
        Lakes.load(lake, 1, 1, Lakes.many(300, 0));
        Lakes.load(lake, 1, 0, Lakes.many(20, 1));
        CHECK.same("compact", lake.compact(0), 1);
        int[][] due = {{0, 0, 2, 5, -1}, {0, 0, 10, 23, 2}, {1, 0, 5, 9, -1}, {1, 1, 6, 18, -1}, {1, 1, 7, 323, 300}, {1, 0, 9, 41, 20}};
        for (int k = 0; k < due.length; k++) {
            for (int what = 0; what < 5; what++) {
                CHECK.same("file(" + k + ", " + what + ")", lake.file(k, what), due[k][what]);
            }
        }
        lake.read(1, 1, 319);
        CHECK.same("a row of the last", Lakes.out(lake), "2 1");
    }

    private static void tooLong() {
        RecordLake lake = new RecordLake();
        Lakes.register(lake, 0, "\"boolean\"");
        Lakes.load(lake, 0, 0, Lakes.many(2000, 1));
        Lakes.load(lake, 0, 0, Lakes.many(2074, 1));
        CHECK.same("4074 rows are too many", lake.compact(0), 0);
        Lakes.load(lake, 0, 0, Lakes.many(1999, 0));
        CHECK.same("the next two: 4073", lake.compact(0), 1);
        CHECK.same("bytes", lake.file(2, 3), 4096);
        CHECK.same("rows", lake.file(2, 4), 4073);
        CHECK.same("rows of the first", lake.file(1, 4), 2000);
        lake.read(0, 0, 2000 + 2074);
        CHECK.same("a row of the second", lake.letter(0, 1), 0);
    }

    private static void noPlace() {
        RecordLake lake = new RecordLake();
        Lakes.register(lake, 0, "\"boolean\"");
        Lakes.load(lake, 0, 0, Lakes.many(230, 1));
        Lakes.load(lake, 0, 0, Lakes.many(230, 1));
        Lakes.load(lake, 0, 0, 1);
        // Blocks 2 to 5 are in use: 122 left, of which seven texts of 16 take 112, and one of 9.
        for (int i = 0; i < 7; i++) {
            CHECK.same("16 blocks", Lakes.register(lake, 1, Lakes.repeat(" ", 4091, "") + "\"int\""), i);
        }
        CHECK.same("9 blocks", Lakes.register(lake, 2, Lakes.repeat(" ", 2299, "") + "\"int\""), 0);
        // One block is left, and the first two want two; that the next two want one does not count.
        CHECK.same("no place", lake.compact(0), RecordLake.FULL);
        CHECK.same("files of rows", lake.count(0, 1), 3);
        lake.power(0);
        CHECK.same("nothing is written", lake.compact(0), RecordLake.FULL);
        CHECK.same("not DOWN", lake.files(), 12);
    }

    private static void power() {
        RecordLake lake = new RecordLake();
        Lakes.register(lake, 0, "\"boolean\"");
        Lakes.load(lake, 0, 0, Lakes.many(200, 1));
        Lakes.load(lake, 0, 0, Lakes.many(100, 0));
        // Two blocks of the new file and the list's.
        for (int n = 0; n < 3; n++) {
            lake.power(n);
            CHECK.same("power goes at block " + n, lake.compact(0), RecordLake.LOST);
            CHECK.same("DOWN", lake.compact(0), RecordLake.DOWN);
            CHECK.index("but for subjects", () -> lake.compact(4));
            CHECK.same("start", lake.start(), 3);
            CHECK.same("files of rows", lake.count(0, 1), 2);
            CHECK.same("rows", lake.count(0, 2), 300);
            CHECK.same("rows in order", lake.read(0, 0, 200), 1);
            CHECK.same("its byte", lake.letter(0, 1), 0);
        }
        lake.power(3);
        CHECK.same("power stays for three blocks", lake.compact(0), 1);
        CHECK.same("files of rows", lake.count(0, 1), 1);
        lake.power(0);
        CHECK.same("nothing to write", lake.compact(0), 0);
        CHECK.same("not DOWN", lake.files(), 2);
    }
}
