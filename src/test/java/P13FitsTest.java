/** Promise 13: whether a version fits another. */
public final class P13FitsTest {
    private static final Check CHECK = new Check();
    private static final FitAsker FITS = new FitAsker(CHECK);
    private static final String[] WORDS = {"null", "boolean", "int", "long", "bytes", "string"};

    public static void main(String[] args) {
        calls();
        words();
        unions();
        rows();
        names();
        records();
        recursive();
        doubling();
        late();
        CHECK.finish("P13FitsTest");
    }

    private static void calls() {
        RecordLake lake = new RecordLake();
        Lakes.register(lake, 0, "\"int\"");
        Lakes.register(lake, 0, "\"long\"");
        Lakes.register(lake, 2, "\"string\"");
        CHECK.yes("0 0 fits 0 1", lake.fits(0, 0, 0, 1));
        CHECK.no("0 1 fits 0 0", lake.fits(0, 1, 0, 0));
        CHECK.no("0 0 fits 2 0", lake.fits(0, 0, 2, 0));
        CHECK.index("subject", () -> lake.fits(4, 0, 0, 0));
        CHECK.index("subject", () -> lake.fits(-1, 0, 0, 0));
        CHECK.index("version", () -> lake.fits(0, 2, 0, 0));
        CHECK.index("version", () -> lake.fits(0, -1, 0, 0));
        CHECK.index("other", () -> lake.fits(0, 0, 4, 0));
        CHECK.index("other", () -> lake.fits(0, 0, -1, 0));
        CHECK.index("its version", () -> lake.fits(0, 0, 2, 1));
        CHECK.index("its version", () -> lake.fits(0, 0, 2, -1));
        lake.power(0);
        Lakes.load(lake, 0, 0, 2);
        CHECK.no("while DOWN", lake.fits(0, 0, 0, 1));
        CHECK.no("while DOWN, whatever versions", lake.fits(0, 9, 0, -9));
        CHECK.index("subject while DOWN", () -> lake.fits(4, 0, 0, 0));
        CHECK.index("other while DOWN", () -> lake.fits(0, 0, 4, 0));
    }

    private static void words() {
        for (String w : WORDS) {
            for (String r : WORDS) {
                boolean due = w.equals(r) || w.equals("int") && r.equals("long")
                        || (w.equals("bytes") || w.equals("string")) && (r.equals("bytes") || r.equals("string"));
                FITS.due(due, "\"" + w + "\"", "\"" + r + "\"");
            }
        }
    }

    private static void unions() {
        FITS.yes("[\"int\",\"null\"]", "[\"null\",\"long\"]");
        FITS.no("[\"int\",\"null\"]", "[\"long\"]");
        FITS.no("[\"int\",\"null\"]", "\"long\"");
        FITS.yes("[\"int\"]", "\"long\"");
        FITS.yes("\"int\"", "[\"string\",\"int\"]");
        FITS.no("\"int\"", "[\"string\",\"null\"]");
        // The first branch that matches is asked for, and no other.
        String longs = "{\"type\":\"array\",\"items\":\"long\"}";
        FITS.yes("{\"type\":\"array\",\"items\":\"int\"}", "[\"null\"," + longs + "]");
        FITS.no("{\"type\":\"array\",\"items\":\"string\"}", "[\"null\"," + longs + "]");
        FITS.no("{\"type\":\"array\",\"items\":[\"string\"]}", "[\"null\"," + longs + "]");
    }

    private static void rows() {
        FITS.yes("{\"type\":\"array\",\"items\":\"int\"}", "{\"type\":\"array\",\"items\":[\"null\",\"long\"]}");
        FITS.no("{\"type\":\"array\",\"items\":\"int\"}", "{\"type\":\"map\",\"values\":\"int\"}");
        FITS.yes("{\"type\":\"map\",\"values\":\"int\"}", "{\"type\":\"map\",\"values\":\"long\"}");
        FITS.no("{\"type\":\"map\",\"values\":\"long\"}", "{\"type\":\"map\",\"values\":\"int\"}");
        FITS.no("{\"type\":\"map\",\"values\":\"int\"}", "\"int\"");
    }

    private static void names() {
        String f = "{\"type\":\"fixed\",\"name\":\"F\",\"size\":2}";
        FITS.yes(f, f);
        FITS.no(f, f.replace("F", "G"));
        FITS.no(f, f.replace("2", "3"));
        FITS.no(f, "\"bytes\"");
        FITS.no(f, "{\"type\":\"enum\",\"name\":\"F\",\"symbols\":[\"a\"]}");
        String e = "{\"type\":\"enum\",\"name\":\"E\",\"symbols\":[\"a\",\"b\"]}";
        FITS.yes(e, e.replace("\"a\",\"b\"", "\"c\",\"b\",\"a\""));
        FITS.no(e, e.replace(",\"b\"", ""));
        FITS.no(e, e.replace("\"a\",", ""));
        FITS.yes(e, e.replace(",\"b\"]", "],\"default\":\"a\""));
        FITS.no(e, e.replace("E", "E1").replace("]", "],\"default\":\"a\""));
        FITS.no(e, e.replace("E", "Ea"));
        // The reader's default counts, not the writer's.
        FITS.no(e.replace("]", "],\"default\":\"a\""), e.replace(",\"b\"", ""));
    }

    private static String record(String fields) {
        return "{\"type\":\"record\",\"name\":\"R\",\"fields\":[" + fields + "]}";
    }

    private static void records() {
        String a = "{\"name\":\"a\",\"type\":\"int\"}";
        String b = "{\"name\":\"b\",\"type\":\"string\"}";
        FITS.yes(record(a + "," + b), record(b + "," + a));
        FITS.yes(record(a + "," + b), record(""));
        FITS.no(record(a), record(a + "," + b));
        FITS.yes(record(a), record(a + "," + b.replace("}", ",\"default\":\"\"}")));
        FITS.no(record(a), record(a).replace("R", "S"));
        FITS.no(record(a), record(b.replace("\"b\"", "\"a\"")));
        // A default does not help where the field is there and does not fit: its datum would be told.
        FITS.no(record(a), record("{\"name\":\"a\",\"type\":\"string\",\"default\":\"x\"}"));
        FITS.yes(record(a), record("{\"name\":\"a\",\"type\":[\"null\",\"long\"],\"default\":null}"));
        FITS.no(record(""), record(a));
    }

    private static void recursive() {
        String list = record("{\"name\":\"n\",\"type\":[\"null\",\"R\"]}");
        FITS.yes(list, list);
        FITS.yes(list, record("{\"name\":\"n\",\"type\":[\"R\",\"null\"]}"));
        FITS.no(list, record("{\"name\":\"n\",\"type\":[\"R\",\"int\"]}"));
        FITS.yes(list, record("{\"name\":\"n\",\"type\":[\"R\",\"null\"]},{\"name\":\"v\",\"type\":\"int\",\"default\":0}"));
        FITS.no(list, record("{\"name\":\"n\",\"type\":[\"R\",\"null\"]},{\"name\":\"v\",\"type\":\"int\"}"));
        FITS.yes(record("{\"name\":\"n\",\"type\":\"R\"}"), record("{\"name\":\"n\",\"type\":\"R\"}"));
        // What does not fit lies behind a pair that is being asked for.
        FITS.no(record("{\"name\":\"n\",\"type\":[\"null\",\"R\"]},{\"name\":\"v\",\"type\":\"long\"}"),
                record("{\"name\":\"n\",\"type\":[\"null\",\"R\"]},{\"name\":\"v\",\"type\":\"int\"}"));
    }

    /** Versions that come behind many others are held against each other just so. */
    private static void late() {
        RecordLake lake = new RecordLake();
        String many = "[" + Lakes.repeat("{\"type\":\"fixed\",\"name\":\"F#\",\"size\":1}", 16, ",") + "]";
        for (int i = 0; i < 14; i++) {
            CHECK.same("register", Lakes.register(lake, 0, many), i);
        }
        CHECK.same("register", Lakes.register(lake, 1, record("{\"name\":\"n\",\"type\":[\"null\",\"R\"]}")), 0);
        CHECK.same("register", Lakes.register(lake, 1, record("{\"name\":\"n\",\"type\":[\"R\",\"null\"]}")), 1);
        CHECK.same("register", Lakes.register(lake, 2, record("{\"name\":\"n\",\"type\":[\"R\"]}")), 0);
        CHECK.yes("1 0 fits 1 1", lake.fits(1, 0, 1, 1));
        CHECK.no("1 0 fits 2 0", lake.fits(1, 0, 2, 0));
        CHECK.yes("2 0 fits 1 0", lake.fits(2, 0, 1, 0));
        CHECK.yes("0 0 fits 0 13", lake.fits(0, 0, 0, 13));
        CHECK.no("0 13 fits 1 0", lake.fits(0, 13, 1, 0));
    }

    /** Each record has the one before it six times: 6^15 ways, but few pairs. */
    private static void doubling() {
        StringBuilder w = new StringBuilder("[{\"type\":\"record\",\"name\":\"A0\",\"fields\":[{\"name\":\"x\",\"type\":\"int\"}]}");
        for (int i = 1; i < 16; i++) {
            String before = "\"A" + (i - 1) + "\"";
            w.append(",{\"type\":\"record\",\"name\":\"A" + i + "\",\"fields\":[");
            for (int j = 0; j < 6; j++) {
                w.append(j == 0 ? "" : ",").append("{\"name\":\"f" + j + "\",\"type\":" + before + "}");
            }
            w.append("]}");
        }
        String all = w + "]";
        FITS.yes(all, all);
        FITS.yes(all, all.replace("\"int\"", "\"long\""));
        FITS.no(all.replace("\"int\"", "\"long\""), all);
    }
}
