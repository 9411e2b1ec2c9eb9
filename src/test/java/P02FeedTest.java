/** Promise 2: twenty bytes come behind the tape, each number's highest one first. */
public final class P02FeedTest {
    public static void main(String[] args) {
        Check check = new Check();
        order(check);
        full(check);
        check.finish("P02FeedTest");
    }

    private static void order(Check check) {
        RecordLake lake = new RecordLake();
        Lakes.register(lake, 0, "{\"type\":\"fixed\",\"name\":\"F\",\"size\":40}");
        check.same("feed", lake.feed(0x01020304, 0x85868788, 0x090a0b0c, -1, 0), 20);
        check.same("feed", lake.feed(0x11121314, 0, 0, 0, 0x7fffff80), 40);
        check.same("load", lake.load(0, 0), 1);
        check.same("read", lake.read(0, 0, 0), 40);
        check.same("OUT", Lakes.out(lake), "1 2 3 4 133 134 135 136 9 10 11 12 255 255 255 255 0 0 0 0 "
                + "17 18 19 20 0 0 0 0 0 0 0 0 0 0 0 0 127 255 255 128");
    }

    private static void full(Check check) {
        RecordLake lake = new RecordLake();
        for (int i = 1; i <= 204; i++) {
            check.same("feed " + i, lake.feed(0, 0, 0, 0, 0), 20 * i);
        }
        check.state("feed to 4100", () -> lake.feed(1, 1, 1, 1, 1));
        lake.end(4080);
        check.argument("the feed that threw left 4080", () -> lake.end(4081));
        lake.end(4077);
        check.state("feed to 4097", () -> lake.feed(1, 1, 1, 1, 1));
        lake.end(4076);
        check.same("feed to 4096", lake.feed(1, 1, 1, 1, 1), 4096);
        check.state("feed behind 4096", () -> lake.feed(1, 1, 1, 1, 1));
        check.same("schema() of zeros", lake.schema(), 1);
        check.same("its place", lake.place(), 0);
    }
}
