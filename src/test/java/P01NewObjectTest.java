/** Promise 1: an empty tape, an empty disk, no subject has a version. */
public final class P01NewObjectTest {
    public static void main(String[] args) {
        Check check = new Check();
        RecordLake lake = new RecordLake();
        check.argument("end(1) of an empty tape", () -> lake.end(1));
        check.same("schema() of an empty tape", lake.schema(), 1);
        check.same("files()", lake.files(), 0);
        check.index("file(0, 0)", () -> lake.file(0, 0));
        for (int s = 0; s < 4; s++) {
            int subject = s;
            for (int what = 0; what < 3; what++) {
                check.same("count(" + s + ", " + what + ")", lake.count(s, what), 0);
            }
            check.index("print(" + s + ", 0)", () -> lake.print(subject, 0));
            check.same("clear(" + s + ")", lake.clear(s), 0);
            check.same("compact(" + s + ")", lake.compact(s), 0);
        }
        check.same("size(0)", lake.size(0), 0);
        check.same("size(1)", lake.size(1), 0);
        check.same("place() of a new one", new RecordLake().place(), RecordLake.NONE);
        check.state("start() of one that is not down", lake::start);
        twoAreApart(check);
        check.finish("P01NewObjectTest");
    }

    private static void twoAreApart(Check check) {
        RecordLake one = new RecordLake();
        RecordLake other = new RecordLake();
        Lakes.register(one, 0, "\"int\"");
        check.same("versions of the one", one.count(0, 0), 1);
        check.same("versions of the other", other.count(0, 0), 0);
        check.same("files of the other", other.files(), 0);
    }
}
