/** Promise 13: whether a version fits another. */
public final class P13FitsTest {
    private static final Check CHECK = new Check();
    private static final String[] WORDS = {"null", "boolean", "int", "long", "bytes", "string"};

    public static void main(String[] args) {
        calls();
        words();
        unions();
        rows();
        names();
        records();
        recursive();
        doubling();
        late();
        CHECK.finish("P13FitsTest");
    }

    private static boolean fits(String w, String r) {
        RecordLake lake = new RecordLake();
        CHECK.same("register " + w, Lakes.register(lake, 0, w), 0);
        CHECK.same("register " + r, Lakes.register(lake, 1, r), 0);
        boolean fits = lake.fits(0, 0, 1, 0);
        // register holds it against the version before it just so.
        CHECK.same("as a version behind it", Lakes.register(lake, 0, r), fits ? 1 : RecordLake.UNFIT);
        return fits;
    }

    private static void yes(String w, String r) {
        CHECK.yes(w + " fits " + r, fits(w, r));
    }

    private static void no(String w, String r) {
        CHECK.no(w + " fits " + r, fits(w, r));
    }

    private static void calls() {
        RecordLake lake = new RecordLake();
        Lakes.register(lake, 0, "\"int\"");
        Lakes.register(lake, 0, "\"long\"");
        Lakes.register(lake, 2, "\"string\"");
        CHECK.yes("0 0 fits 0 1", lake.fits(0, 0, 0, 1));
        CHECK.no("0 1 fits 0 0", lake.fits(0, 1, 0, 0));
        CHECK.no("0 0 fits 2 0", lake.fits(0, 0, 2, 0));
        CHECK.index("subject", () -> lake.fits(4, 0, 0, 0));
        CHECK.index("subject", () -> lake.fits(-1, 0, 0, 0));
        CHECK.index("version", () -> lake.fits(0, 2, 0, 0));
        CHECK.index("version", () -> lake.fits(0, -1, 0, 0));
        CHECK.index("other", () -> lake.fits(0, 0, 4, 0));
        CHECK.index("other", () -> lake.fits(0, 0, -1, 0));
        CHECK.index("its version", () -> lake.fits(0, 0, 2, 1));
        CHECK.index("its version", () -> lake.fits(0, 0, 2, -1));
        lake.power(0);
        Lakes.load(lake, 0, 0, 2);
        CHECK.no("while DOWN", lake.fits(0, 0, 0, 1));
        CHECK.no("while DOWN, whatever versions", lake.fits(0, 9, 0, -9));
        CHECK.index("subject while DOWN", () -> lake.fits(4, 0, 0, 0));
        CHECK.index("other while DOWN", () -> lake.fits(0, 0, 4, 0));
    }

    private static void words() {
        for (String w : WORDS) {
            for (String r : WORDS) {
                boolean due = w.equals(r) || w.equals("int") && r.equals("long")
                        || (w.equals("bytes") || w.equals("string")) && (r.equals("bytes") || r.equals("string"));
                CHECK.same(w + " fits " + r, fits("\"" + w + "\"", "\"" + r + "\"") ? 1 : 0, due ? 1 : 0);
            }
        }
    }

    private static void unions() {
        yes("[\"int\",\"null\"]", "[\"null\",\"long\"]");
        no("[\"int\",\"null\"]", "[\"long\"]");
        no("[\"int\",\"null\"]", "\"long\"");
        yes("[\"int\"]", "\"long\"");
        yes("\"int\"", "[\"string\",\"int\"]");
        no("\"int\"", "[\"string\",\"null\"]");
        // The first branch that matches is asked for, and no other.
        String longs = "{\"type\":\"array\",\"items\":\"long\"}";
        yes("{\"type\":\"array\",\"items\":\"int\"}", "[\"null\"," + longs + "]");
        no("{\"type\":\"array\",\"items\":\"string\"}", "[\"null\"," + longs + "]");
        no("{\"type\":\"array\",\"items\":[\"string\"]}", "[\"null\"," + longs + "]");
    }

    private static void rows() {
        yes("{\"type\":\"array\",\"items\":\"int\"}", "{\"type\":\"array\",\"items\":[\"null\",\"long\"]}");
        no("{\"type\":\"array\",\"items\":\"int\"}", "{\"type\":\"map\",\"values\":\"int\"}");
        yes("{\"type\":\"map\",\"values\":\"int\"}", "{\"type\":\"map\",\"values\":\"long\"}");
        no("{\"type\":\"map\",\"values\":\"long\"}", "{\"type\":\"map\",\"values\":\"int\"}");
        no("{\"type\":\"map\",\"values\":\"int\"}", "\"int\"");
    }

    private static void names() {
        String f = "{\"type\":\"fixed\",\"name\":\"F\",\"size\":2}";
        yes(f, f);
        no(f, f.replace("F", "G"));
        no(f, f.replace("2", "3"));
        no(f, "\"bytes\"");
        no(f, "{\"type\":\"enum\",\"name\":\"F\",\"symbols\":[\"a\"]}");
        String e = "{\"type\":\"enum\",\"name\":\"E\",\"symbols\":[\"a\",\"b\"]}";
        yes(e, e.replace("\"a\",\"b\"", "\"c\",\"b\",\"a\""));
        no(e, e.replace(",\"b\"", ""));
        no(e, e.replace("\"a\",", ""));
        yes(e, e.replace(",\"b\"]", "],\"default\":\"a\""));
        no(e, e.replace("E", "E1").replace("]", "],\"default\":\"a\""));
        no(e, e.replace("E", "Ea"));
        // The reader's default counts, not the writer's.
        no(e.replace("]", "],\"default\":\"a\""), e.replace(",\"b\"", ""));
    }

    private static String record(String fields) {
        return "{\"type\":\"record\",\"name\":\"R\",\"fields\":[" + fields + "]}";
    }

    private static void records() {
        String a = "{\"name\":\"a\",\"type\":\"int\"}";
        String b = "{\"name\":\"b\",\"type\":\"string\"}";
        yes(record(a + "," + b), record(b + "," + a));
        yes(record(a + "," + b), record(""));
        no(record(a), record(a + "," + b));
        yes(record(a), record(a + "," + b.replace("}", ",\"default\":\"\"}")));
        no(record(a), record(a).replace("R", "S"));
        no(record(a), record(b.replace("\"b\"", "\"a\"")));
        // A default does not help where the field is there and does not fit: its datum would be told.
        no(record(a), record("{\"name\":\"a\",\"type\":\"string\",\"default\":\"x\"}"));
        yes(record(a), record("{\"name\":\"a\",\"type\":[\"null\",\"long\"],\"default\":null}"));
        no(record(""), record(a));
    }

    private static void recursive() {
        String list = record("{\"name\":\"n\",\"type\":[\"null\",\"R\"]}");
        yes(list, list);
        yes(list, record("{\"name\":\"n\",\"type\":[\"R\",\"null\"]}"));
        no(list, record("{\"name\":\"n\",\"type\":[\"R\",\"int\"]}"));
        yes(list, record("{\"name\":\"n\",\"type\":[\"R\",\"null\"]},{\"name\":\"v\",\"type\":\"int\",\"default\":0}"));
        no(list, record("{\"name\":\"n\",\"type\":[\"R\",\"null\"]},{\"name\":\"v\",\"type\":\"int\"}"));
        yes(record("{\"name\":\"n\",\"type\":\"R\"}"), record("{\"name\":\"n\",\"type\":\"R\"}"));
        // What does not fit lies behind a pair that is being asked for.
        no(record("{\"name\":\"n\",\"type\":[\"null\",\"R\"]},{\"name\":\"v\",\"type\":\"long\"}"),
                record("{\"name\":\"n\",\"type\":[\"null\",\"R\"]},{\"name\":\"v\",\"type\":\"int\"}"));
    }

    /** Versions that come behind many others are held against each other just so. */
    private static void late() {
        RecordLake lake = new RecordLake();
        String many = "[" + Lakes.repeat("{\"type\":\"fixed\",\"name\":\"F#\",\"size\":1}", 16, ",") + "]";
        for (int i = 0; i < 14; i++) {
            CHECK.same("register", Lakes.register(lake, 0, many), i);
        }
        CHECK.same("register", Lakes.register(lake, 1, record("{\"name\":\"n\",\"type\":[\"null\",\"R\"]}")), 0);
        CHECK.same("register", Lakes.register(lake, 1, record("{\"name\":\"n\",\"type\":[\"R\",\"null\"]}")), 1);
        CHECK.same("register", Lakes.register(lake, 2, record("{\"name\":\"n\",\"type\":[\"R\"]}")), 0);
        CHECK.yes("1 0 fits 1 1", lake.fits(1, 0, 1, 1));
        CHECK.no("1 0 fits 2 0", lake.fits(1, 0, 2, 0));
        CHECK.yes("2 0 fits 1 0", lake.fits(2, 0, 1, 0));
        CHECK.yes("0 0 fits 0 13", lake.fits(0, 0, 0, 13));
        CHECK.no("0 13 fits 1 0", lake.fits(0, 13, 1, 0));
    }

    /** Each record has the one before it six times: 6^15 ways, but few pairs. */
    private static void doubling() {
        StringBuilder w = new StringBuilder("[{\"type\":\"record\",\"name\":\"A0\",\"fields\":[{\"name\":\"x\",\"type\":\"int\"}]}");
        for (int i = 1; i < 16; i++) {
            String before = "\"A" + (i - 1) + "\"";
            w.append(",{\"type\":\"record\",\"name\":\"A" + i + "\",\"fields\":[");
            for (int j = 0; j < 6; j++) {
                w.append(j == 0 ? "" : ",").append("{\"name\":\"f" + j + "\",\"type\":" + before + "}");
            }
            w.append("]}");
        }
        String all = w + "]";
        yes(all, all);
        yes(all, all.replace("\"int\"", "\"long\""));
        no(all.replace("\"int\"", "\"long\""), all);
    }
}
