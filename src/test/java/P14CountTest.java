/** Promise 14: how many versions, files of rows and rows a subject has. */
public final class P14CountTest {
    public static void main(String[] args) {
        Check check = new Check();
        RecordLake lake = new RecordLake();
        Lakes.register(lake, 1, "\"int\"");
        Lakes.register(lake, 1, "\"long\"");
        Lakes.register(lake, 2, "\"int\"");
        Lakes.load(lake, 1, 0, 2, 4, 6);
        Lakes.load(lake, 1, 1, 2);
        Lakes.load(lake, 2, 0, 2);
        int[][] due = {{0, 0, 0}, {2, 2, 4}, {1, 1, 1}, {0, 0, 0}};
        for (int s = 0; s < 4; s++) {
            int subject = s;
            for (int what = 0; what < 3; what++) {
                check.same("count(" + s + ", " + what + ")", lake.count(s, what), due[s][what]);
            }
            check.argument("what -1", () -> lake.count(subject, -1));
            check.argument("what 3", () -> lake.count(subject, 3));
        }
        check.index("subject 4", () -> lake.count(4, 0));
        check.index("subject -1", () -> lake.count(-1, 0));
        check.index("of both the one named first", () -> lake.count(4, 3));
        lake.power(0);
        lake.clear(1);
        for (int what = 0; what < 3; what++) {
            check.same("DOWN", lake.count(1, what), RecordLake.DOWN);
        }
        check.argument("what 3 while DOWN", () -> lake.count(0, 3));
        check.index("subject 4 while DOWN", () -> lake.count(4, 0));
        check.index("both while DOWN", () -> lake.count(4, 3));
        lake.start();
        check.same("rows", lake.count(1, 2), 4);
        check.finish("P14CountTest");
    }
}
