/** Promise 4: the plain form; the tape stays. */
public final class P04PlainFormTest {
    private static final Check CHECK = new Check();

    private static void plain(String text, String due) {
        RecordLake lake = new RecordLake();
        Lakes.tape(lake, text);
        CHECK.same("schema() of " + text, lake.schema(), 0);
        CHECK.same("plain form", Lakes.plain(lake), due);
        CHECK.same("schema() once more: the tape stays", lake.schema(), 0);
        // What is plain already stays as it is.
        Lakes.tape(lake, due);
        CHECK.same("schema() of " + due, lake.schema(), 0);
        CHECK.same("plain form of a plain form", Lakes.plain(lake), due);
    }

    public static void main(String[] args) {
        plain(" \"string\" ", "\"string\"");
        plain("{ \"doc\":1, \"type\" : \"bytes\" }", "\"bytes\"");
        plain("{\"items\":\"int\", \"type\":\"array\"}", "{\"type\":\"array\",\"items\":\"int\"}");
        plain("{\"values\":[ \"int\" ], \"type\":\"map\"}", "{\"type\":\"map\",\"values\":[\"int\"]}");
        plain("{\"type\":\"fixed\",\"size\": 10,\"name\":\"\\u0046_1\"}", "{\"name\":\"F_1\",\"type\":\"fixed\",\"size\":10}");
        plain("{\"type\":\"fixed\",\"size\":-0,\"name\":\"F\"}", "{\"name\":\"F\",\"type\":\"fixed\",\"size\":0}");
        plain("{\"type\":\"fixed\",\"size\":64,\"name\":\"F\"}", "{\"name\":\"F\",\"type\":\"fixed\",\"size\":64}");
        plain("{\"symbols\":[\"B\" , \"A\"],\"default\":\"A\",\"type\":\"enum\",\"name\":\"E\"}",
                "{\"name\":\"E\",\"type\":\"enum\",\"symbols\":[\"B\",\"A\"]}");
        plain("{\"type\":\"record\",\"name\":\"N\",\"fields\":[]}", "{\"name\":\"N\",\"type\":\"record\",\"fields\":[]}");
        plain("{\"fields\":[{\"default\":1,\"type\":\"int\",\"name\":\"b\"},{\"name\":\"a\",\"type\":{\"type\":\"N\"}}],"
                + "\"name\":\"N\",\"type\":\"record\"}",
                "{\"name\":\"N\",\"type\":\"record\",\"fields\":[{\"name\":\"b\",\"type\":\"int\"},{\"name\":\"a\",\"type\":\"N\"}]}");
        plain("[{\"type\":\"fixed\",\"name\":\"F\",\"size\":1},{\"type\":\"array\",\"items\":\"F\"},"
                + "{\"type\":\"map\",\"values\":[\"null\",\"F\"]}]",
                "[{\"name\":\"F\",\"type\":\"fixed\",\"size\":1},{\"type\":\"array\",\"items\":\"F\"},"
                + "{\"type\":\"map\",\"values\":[\"null\",\"F\"]}]");
        fault();
        again();
        CHECK.finish("P04PlainFormTest");
    }

    /** What a text brought is gone with it: the room does not fill up. */
    private static void again() {
        RecordLake lake = new RecordLake();
        String many = "[" + Lakes.repeat("{\"type\":\"fixed\",\"name\":\"NameOfFixed#\",\"size\":1}", 16, ",") + "]";
        String symbols = "{\"type\":\"enum\",\"name\":\"E\",\"symbols\":[" + Lakes.repeat("\"s#\"", 32, ",") + "]}";
        Lakes.tape(lake, many);
        for (int i = 0; i < 400; i++) {
            CHECK.same("schema() again", lake.schema(), 0);
        }
        Lakes.tape(lake, symbols);
        for (int i = 0; i < 400; i++) {
            CHECK.same("schema() again", lake.schema(), 0);
        }
        CHECK.same("register", lake.register(0), 0);
        Lakes.tape(lake, many);
        for (int i = 0; i < 400; i++) {
            CHECK.same("UNFIT again", lake.register(0), RecordLake.UNFIT);
        }
        lake.end(lake.feed(0, 0, 0, 0, 0) - 19);
        for (int i = 0; i < 400; i++) {
            CHECK.same("a fault again", lake.register(0), -1);
        }
        CHECK.same("register", Lakes.register(lake, 1, many), 0);
        for (int i = 0; i < 400; i++) {
            lake.power(0);
            Lakes.load(lake, 0, 0, 2);
            CHECK.same("start again", lake.start(), 2);
        }
        CHECK.same("register", Lakes.register(lake, 2, many), 0);
        CHECK.yes("fits", lake.fits(1, 0, 2, 0));
    }

    private static void fault() {
        RecordLake lake = new RecordLake();
        Lakes.tape(lake, "\"int\"");
        lake.schema();
        CHECK.same("size(0)", lake.size(0), 5);
        Lakes.tape(lake, "\"ints\"");
        CHECK.same("the tape alone changes nothing", lake.size(0), 5);
        CHECK.same("schema()", lake.schema(), 3);
        CHECK.same("with a fault it has no bytes", lake.size(0), 0);
    }
}
