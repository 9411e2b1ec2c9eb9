/** Promises 16 and 17: the bytes of the plain form and of OUT, and how many there are. */
public final class P16LetterTest {
    public static void main(String[] args) {
        Check check = new Check();
        RecordLake lake = new RecordLake();
        Lakes.register(lake, 0, "\"bytes\"");
        Lakes.load(lake, 0, 0, 4, 200, 255);
        check.same("plain form", Lakes.plain(lake), "\"bytes\"");
        check.same("size(0)", lake.size(0), 7);
        check.same("size(1) of nothing", lake.size(1), 0);
        lake.read(0, 0, 0);
        check.same("OUT", Lakes.out(lake), "4 200 255");
        check.same("size(1)", lake.size(1), 3);
        check.index("letter(7, 0)", () -> lake.letter(7, 0));
        check.index("letter(3, 1)", () -> lake.letter(3, 1));
        check.index("letter(-1, 0)", () -> lake.letter(-1, 0));
        check.index("letter(-1, 1)", () -> lake.letter(-1, 1));
        check.index("letter of all too many", () -> lake.letter(Integer.MAX_VALUE, 1));
        for (int i = -1; i < 9; i += 3) {
            int at = i;
            check.argument("letter(" + i + ", 2)", () -> lake.letter(at, 2));
            check.argument("letter(" + i + ", -1)", () -> lake.letter(at, -1));
        }
        check.argument("size(2)", () -> lake.size(2));
        check.argument("size(-1)", () -> lake.size(-1));
        lake.power(0);
        Lakes.load(lake, 0, 0, 0);
        check.same("plain form while DOWN", Lakes.plain(lake), "\"bytes\"");
        check.same("OUT while DOWN", Lakes.out(lake), "4 200 255");
        check.index("letter(3, 1) while DOWN", () -> lake.letter(3, 1));
        check.argument("letter(3, 2) while DOWN", () -> lake.letter(3, 2));
        check.argument("size(2) while DOWN", () -> lake.size(2));
        Lakes.tape(lake, "\"in");
        lake.schema();
        check.same("size(0) with a fault", lake.size(0), 0);
        lake.start();
        check.same("start() leaves OUT", lake.size(1), 3);
        check.finish("P16LetterTest");
    }
}
