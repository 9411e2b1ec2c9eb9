/** Promise 3: the tape is cut behind its first n bytes, also while DOWN. */
public final class P03EndTest {
    public static void main(String[] args) {
        Check check = new Check();
        RecordLake lake = new RecordLake();
        Lakes.tape(lake, "\"int\"\"long\"");
        check.argument("end(-1)", () -> lake.end(-1));
        check.argument("end(12)", () -> lake.end(12));
        check.argument("end of all too many", () -> lake.end(Integer.MAX_VALUE));
        check.argument("end of all too few", () -> lake.end(Integer.MIN_VALUE));
        check.same("schema() of two values", lake.schema(), 1);
        check.same("the second one's place", lake.place(), 5);
        check.same("end(11) is all of it", Check.thrownBy(() -> lake.end(11)), "nothing");
        lake.end(5);
        check.same("schema() of one", lake.schema(), 0);
        check.same("plain form", Lakes.plain(lake), "\"int\"");
        check.argument("what was cut is gone", () -> lake.end(6));
        lake.end(0);
        check.same("schema() of nothing", lake.schema(), 1);
        whileDown(check);
        check.finish("P03EndTest");
    }

    private static void whileDown(Check check) {
        RecordLake lake = new RecordLake();
        lake.power(0);
        check.same("register", Lakes.register(lake, 0, "\"int\""), RecordLake.LOST);
        check.argument("the tape is empty", () -> lake.end(1));
        Lakes.tape(lake, "\"int\"?");
        check.same("schema() goes on while DOWN", lake.schema(), 1);
        check.same("its place", lake.place(), 5);
        lake.end(5);
        check.same("schema() once more", lake.schema(), 0);
        check.argument("end(6) while DOWN", () -> lake.end(6));
        check.same("start", lake.start(), 0);
        check.same("the tape is still there", lake.register(0), 0);
    }
}
