/** Promise 15: the PRINT of a version. */
public final class P15PrintTest {
    private static final Check CHECK = new Check();

    /** As the document says it, with T in full. */
    private static long print(String plain) {
        long p = 0xC15D213AA4D7A795L;
        for (byte b : Lakes.bytes(plain)) {
            long t = (p ^ b) & 255;
            for (int i = 0; i < 8; i++) {
                t = (t & 1) == 1 ? t >>> 1 ^ 0xC15D213AA4D7A795L : t >>> 1;
            }
            p = p >>> 8 ^ t;
        }
        return p;
    }

    public static void main(String[] args) {
        RecordLake lake = new RecordLake();
        Lakes.register(lake, 0, " {\"type\":\"int\"} ");
        Lakes.register(lake, 0, "\"long\"");
        Lakes.register(lake, 3, "{\"size\":4,\"type\":\"fixed\",\"name\":\"F\"}");
        // This one is known: it is told wherever this kind of print is spoken of.
        CHECK.same("int", lake.print(0, 0), 0x7275d51a3f395c8fL);
        CHECK.same("int by the document", print("\"int\""), 0x7275d51a3f395c8fL);
        CHECK.same("long", lake.print(0, 1), print("\"long\""));
        CHECK.same("fixed", lake.print(3, 0), print("{\"name\":\"F\",\"type\":\"fixed\",\"size\":4}"));
        CHECK.same("plain form stays", Lakes.plain(lake), "{\"name\":\"F\",\"type\":\"fixed\",\"size\":4}");
        CHECK.index("subject", () -> lake.print(4, 0));
        CHECK.index("subject", () -> lake.print(-1, 0));
        CHECK.index("version", () -> lake.print(0, 2));
        CHECK.index("version", () -> lake.print(0, -1));
        CHECK.index("version", () -> lake.print(1, 0));
        lake.power(0);
        Lakes.load(lake, 0, 0, 2);
        CHECK.same("while DOWN", lake.print(0, 0), 0);
        CHECK.same("while DOWN, whatever version", lake.print(1, 5), 0);
        CHECK.index("but for the subject", () -> lake.print(4, 0));
        lake.start();
        CHECK.same("int again", lake.print(0, 0), print("\"int\""));
        CHECK.finish("P15PrintTest");
    }
}
