/** Part 2 of the document, what defaults must FIT, PLAIN FORM and PRINT: each sentence that names an edge. */
public final class Edges2DefaultsTest {
    private static final Check CHECK = new Check();
    private static final SchemaAsker ASK = new SchemaAsker(CHECK);
    private static final String FIXED = "{\"type\":\"fixed\",\"name\":\"F\",\"size\":2}";
    private static final String ENUM = "{\"type\":\"enum\",\"name\":\"E\",\"symbols\":[\"x\",\"y\"]}";
    private static final String INTS = "{\"type\":\"array\",\"items\":\"int\"}";
    private static final String MAP = "{\"type\":\"map\",\"values\":\"int\"}";
    private static final String TWO = "{\"type\":\"record\",\"name\":\"S\",\"fields\":[{\"name\":\"p\",\"type\":\"int\"},{\"name\":\"q\",\"type\":\"int\"}]}";
    /** A value of each kind: none of them fits a type that is not asked for it below. */
    private static final String[] VALUES = {"null", "true", "false", "0", "-1", "\"\"", "\"x\"", "\"xy\"", "[]", "[0]", "{}", "{\"a\":0}"};

    public static void main(String[] args) {
        order();
        kinds();
        numbers();
        rows();
        unions();
        records();
        firstValue();
        plainForm();
        CHECK.finish("Edges2DefaultsTest");
    }

    private static String record(String fields) {
        return "{\"type\":\"record\",\"name\":\"R\",\"fields\":[" + fields + "]}";
    }

    private static String field(String name, String type, String value) {
        return "{\"name\":\"" + name + "\",\"default\":" + value + ",\"type\":" + type + "}";
    }

    private static void fit(String type, String... values) {
        for (String value : values) {
            ASK.sound(record(field("a", type, value)));
        }
    }

    private static void misfit(String type, String... values) {
        for (String value : values) {
            ASK.marked(record(field("a", type, value.indexOf('~') < 0 ? "~" + value : value)), 12);
        }
    }

    /** Of the values of each kind these fit, and all others do not. */
    private static void only(String type, String... fitting) {
        for (String value : VALUES) {
            if (java.util.List.of(fitting).contains(value)) {
                fit(type, value);
            } else {
                misfit(type, value);
            }
        }
    }

    private static void order() {
        CHECK.says("Then the members \"default\" of all fields of all records in the text");
        ASK.marked(record(field("a", "\"int\"", "\"no\"") + "," + "{\"name\":\"b\",\"type\":~\"foo\"}"), 3);
        ASK.marked("[" + record(field("a", "\"int\"", "\"no\"")) + ",~\"foo\"]", 3);
        ASK.marked("[" + record(field("a", "\"int\"", "\"no\"")) + ",{\"type\":\"enum\",\"name\":\"E\",\"symbols\":[\"a\"],\"default\":~1}]", 12);
        ASK.marked("[" + record(field("a", "\"int\"", "~\"no\"")) + ",\"int\"]", 12);
        ASK.marked("{\"type\":\"map\",\"values\":[" + record(field("a", "\"int\"", "~\"no\"")) + "]}", 12);
        CHECK.says("a field's behind those of the fields that lie in its type, else in the order in which they were looked at");
        String inner = "{\"type\":\"record\",\"name\":\"S\",\"fields\":[" + field("x", "\"int\"", "#") + "]}";
        ASK.marked(record(field("a", inner.replace("#", "~\"no\""), "\"no\"")), 12);
        ASK.marked(record(field("a", inner.replace("#", "1"), "~\"no\"")), 12);
        ASK.sound(record(field("a", inner.replace("#", "1"), "{\"x\":2}")));
        ASK.marked(record(field("a", "{\"type\":\"array\",\"items\":" + inner.replace("#", "~\"no\"") + "}", "0")), 12);
        ASK.marked(record(field("z", "\"int\"", "~\"no\"") + "," + field("a", inner.replace("#", "\"no\""), "0")), 12);
        ASK.marked(record(field("z", "\"int\"", "0") + "," + field("b", "\"int\"", "~null") + "," + field("a", "\"int\"", "null")), 12);
        // A name that stands for a record does not have its fields lie there.
        ASK.marked("[" + inner.replace("#", "~\"no\"") + "," + record(field("a", "\"S\"", "\"no\"")) + "]", 12);
        ASK.marked("[" + inner.replace("#", "3") + "," + record(field("b", "\"int\"", "~\"no\"") + "," + field("a", "\"S\"", "\"no\"")) + "]", 12);
    }

    private static void kinds() {
        CHECK.says("null: null.");
        only("\"null\"", "null");
        CHECK.says("BOOLEAN: true or false.");
        only("\"boolean\"", "true", "false");
        CHECK.says("INT, LONG: a number within 32 or 64 bits.");
        only("\"int\"", "0", "-1");
        only("\"long\"", "0", "-1");
        CHECK.says("BYTES, STRING: a string.");
        only("\"bytes\"", "\"\"", "\"x\"", "\"xy\"");
        only("\"string\"", "\"\"", "\"x\"", "\"xy\"");
        CHECK.says("FIXED: one of just its size.");
        only(FIXED, "\"xy\"");
        only(FIXED.replace("2", "0"), "\"\"");
        only(FIXED.replace("2", "1"), "\"x\"");
        fit(FIXED, "\"\\u0000\\u00ff\"", "\"\\\\\\n\"");
        misfit(FIXED, "\"\\u0000\"", "\"abc\"");
        fit(FIXED.replace("2", "64"), "\"" + Lakes.repeat("x", 64, "") + "\"");
        misfit(FIXED.replace("2", "64"), "\"" + Lakes.repeat("x", 63, "") + "\"", "\"" + Lakes.repeat("x", 65, "") + "\"");
        CHECK.says("ENUM: one of its symbols.");
        only(ENUM, "\"x\"");
        fit(ENUM, "\"y\"", "\"\\u0079\"");
        misfit(ENUM, "\"z\"", "\"X\"");
        // Its own default does not stand in for one that is none.
        misfit(ENUM.replace("]}", "],\"default\":\"x\"}"), "\"z\"");
    }

    private static void numbers() {
        CHECK.says("a number within 32 or 64 bits");
        fit("\"int\"", "2147483647", "-2147483648");
        misfit("\"int\"", "2147483648", "-2147483649", "4294967296", "-4294967295", "9223372036854775807", "-9223372036854775808");
        fit("\"long\"", "2147483648", "-2147483649", "9223372036854775807", "-9223372036854775808");
        ASK.marked(record(field("a", "\"long\"", "~9223372036854775808")), 1);
    }

    private static void rows() {
        CHECK.says("An array: a list whose values all fit");
        only(INTS, "[]", "[0]");
        misfit(INTS, "[0,1,~\"no\",null]", "[~null]", "[0,~[]]", "[~2147483648]");
        fit("{\"type\":\"array\",\"items\":" + INTS + "}", "[[],[1],[]]");
        misfit("{\"type\":\"array\",\"items\":" + INTS + "}", "[[],~1]", "[[],[1,~[]]]");
        CHECK.says("a map: an object whose values all fit");
        only(MAP, "{}", "{\"a\":0}");
        misfit(MAP, "{\"b\":0,\"a\":~\"no\",\"c\":null}", "{\"\":~null}");
        fit("{\"type\":\"map\",\"values\":" + MAP + "}", "{\"x\":{},\"y\":{\"z\":1}}");
        misfit("{\"type\":\"map\",\"values\":" + MAP + "}", "{\"x\":{},\"y\":{\"z\":~{}}}");
    }

    private static void unions() {
        CHECK.says("A union: what fits its first branch.");
        only("[\"null\",\"int\"]", "null");
        only("[\"int\",\"null\"]", "0", "-1");
        only("[" + INTS + ",\"null\"]", "[]", "[0]");
        misfit("[" + INTS + ",\"null\"]", "[0,~null]");
        misfit("{\"type\":\"array\",\"items\":[\"null\",\"int\"]}", "[null,~1]");
    }

    private static void records() {
        CHECK.says("A record: an object that has a member for each of its fields, which fits.");
        fit(TWO, "{\"p\":1,\"q\":2}", "{\"q\":1,\"p\":2}", "{\"q\":1,\"x\":null,\"p\":2}");
        misfit(TWO, VALUES);
        misfit(TWO, "{\"p\":1}", "{\"q\":1}", "{\"P\":1,\"Q\":1}", "{\"p\":1,\"q\":~null}", "{\"p\":~null,\"q\":1}");
        // A default of a field does not stand in for a member that lacks.
        misfit(TWO.replace("\"q\",", "\"q\",\"default\":7,"), "{\"p\":1}");
        fit("{\"type\":\"record\",\"name\":\"S\",\"fields\":[]}", "{}", "{\"a\":0}");
        misfit("{\"type\":\"record\",\"name\":\"S\",\"fields\":[]}", "[]", "null");
        // A record in itself: what fits ends somewhere.
        misfit("\"R\"", "~{}", "{\"a\":~{}}", "{\"a\":{\"a\":~{}}}", "{\"a\":~null}");
        fit("[\"null\",\"R\"]", "null");
        fit("{\"type\":\"array\",\"items\":\"R\"}", "[]", "[{\"a\":[]}]", "[{\"a\":[{\"a\":[]}]},{\"a\":[]}]");
        misfit("{\"type\":\"array\",\"items\":\"R\"}", "[{\"a\":[~{}]}]");
        // As deep as a text goes: the text's own three, and 21 more.
        fit("{\"type\":\"array\",\"items\":\"R\"}", Lakes.repeat("[{\"a\":", 10, "") + "[]" + Lakes.repeat("}]", 10, ""));
        misfit("{\"type\":\"array\",\"items\":\"R\"}", Lakes.repeat("[{\"a\":", 10, "") + "~1" + Lakes.repeat("}]", 10, ""));
    }

    private static void firstValue() {
        CHECK.says("12 at the first value that does not (lists and maps in order of the text, records in order of their fields), "
                + "at the object if a member lacks.");
        misfit(INTS, "[1,~null,null]");
        misfit(MAP, "{\"b\":~null,\"a\":null}");
        misfit(TWO, "{\"q\":null,\"p\":~null}", "{\"q\":1,\"p\":~null}", "{\"p\":1,\"q\":~null}");
        misfit(TWO, "~{\"q\":1}", "~{\"p\":1}", "~{}");
        misfit("{\"type\":\"array\",\"items\":" + TWO + "}", "[{\"p\":1,\"q\":1},~{\"q\":1},null]");
        // Fields in order: one that does not fit before one that lacks, one that lacks before one that does not fit.
        misfit(TWO, "{\"p\":~null}", "~{\"q\":null}");
    }

    /** A text of 4096 bytes that is plain already. */
    private static String mostBytes() {
        StringBuilder all = new StringBuilder("[");
        for (int i = 0; i < 3; i++) {
            all.append("{\"name\":\"E").append(i).append("\",\"type\":\"enum\",\"symbols\":[").append(symbols(1100)).append("]},");
        }
        all.append("{\"name\":\"E3\",\"type\":\"enum\",\"symbols\":[");
        return all.append(symbols(4096 - 3 - all.length())).append("]}]").toString();
    }

    /** Symbols with quotes and commas that have so many bytes together. */
    private static String symbols(int bytes) {
        StringBuilder all = new StringBuilder();
        for (int i = 10; all.length() < bytes; i++) {
            int left = bytes - all.length() - (all.length() == 0 ? 0 : 1);
            int wide = left <= 34 ? left : Math.min(34, left - 6);
            all.append(all.length() == 0 ? "\"s" : ",\"s").append(i).append(Lakes.repeat("x", wide - 5, "")).append('"');
        }
        return all.toString();
    }

    private static void plainForm() {
        CHECK.says("a name that stood before in the plain form as \"N\" alone");
        ASK.sound("[ {\"size\":1 ,\"type\":\"fixed\",\"name\":\"F\"} , {\"items\":{\"type\":\"F\"},\"type\":\"array\"},{\"values\":\"F\",\"type\":\"map\"}]",
                "[{\"name\":\"F\",\"type\":\"fixed\",\"size\":1},{\"type\":\"array\",\"items\":\"F\"},{\"type\":\"map\",\"values\":\"F\"}]");
        ASK.sound("{\"fields\":[{\"type\":[\"null\",\"R\"],\"name\":\"a\"}],\"name\":\"R\",\"type\":\"record\"}",
                "{\"name\":\"R\",\"type\":\"record\",\"fields\":[{\"name\":\"a\",\"type\":[\"null\",\"R\"]}]}");
        CHECK.says("the six words as \"int\"; array {\"type\":\"array\",\"items\":X}; map {\"type\":\"map\",\"values\":X}; union [X,Y]");
        for (String word : new String[] {"null", "boolean", "int", "long", "bytes", "string"}) {
            ASK.sound("{\"type\":\"" + word + "\",\"doc\":0}", "\"" + word + "\"");
        }
        ASK.sound("{\"items\":{\"type\":\"int\"},\"type\":\"array\"}", "{\"type\":\"array\",\"items\":\"int\"}");
        ASK.sound("{\"values\":{\"type\":\"int\"},\"type\":\"map\"}", "{\"type\":\"map\",\"values\":\"int\"}");
        ASK.sound("[ {\"type\":\"int\"} ]", "[\"int\"]");
        ASK.sound("[ \"int\" , {\"type\":\"long\"},\"null\" ]", "[\"int\",\"long\",\"null\"]");
        CHECK.says("ENUM {\"name\":\"N\",\"type\":\"enum\",\"symbols\":[\"A\",\"B\"]}");
        ASK.sound("{\"default\":\"B\",\"symbols\":[\"A\",\"\\u0042\"],\"type\":\"enum\",\"name\":\"N\"}",
                "{\"name\":\"N\",\"type\":\"enum\",\"symbols\":[\"A\",\"B\"]}");
        CHECK.says("RECORD {\"name\":\"N\",\"type\":\"record\",\"fields\":[{\"name\":\"A\",\"type\":X},{\"name\":\"B\",\"type\":Y}]}");
        ASK.sound("{\"fields\":[{\"default\":1,\"type\":\"int\",\"name\":\"A\"},{\"type\":[\"null\"],\"name\":\"B\"}],\"name\":\"N\",\"type\":\"record\"}",
                "{\"name\":\"N\",\"type\":\"record\",\"fields\":[{\"name\":\"A\",\"type\":\"int\"},{\"name\":\"B\",\"type\":[\"null\"]}]}");
        ASK.sound("{\"fields\":[ ],\"name\":\"N\",\"type\":\"record\"}", "{\"name\":\"N\",\"type\":\"record\",\"fields\":[]}");
        CHECK.says("PLAIN FORM: without blanks");
        String all = "{ \"name\" : \"R\" , \"type\" : \"record\" , \"fields\" : [ { \"name\" : \"a\" , \"type\" : { \"name\" : \"E\" , \"type\" : \"enum\" , "
                + "\"symbols\" : [ \"A\" , \"B\" ] } } , { \"name\" : \"b\" , \"type\" : { \"name\" : \"F\" , \"type\" : \"fixed\" , \"size\" : 64 } } ] }";
        ASK.sound(all, all.replace(" ", ""));
        // As deep as schemas and texts go.
        String arrays = Lakes.repeat("{\"type\":\"array\",\"items\":", 15, "") + "\"int\"" + Lakes.repeat("}", 15, "");
        ASK.sound(arrays, arrays);
        String unions = Lakes.repeat("{\"type\":\"map\",\"values\":[", 7, "") + arrays.substring(24 * 14, 24 * 15 + 6) + Lakes.repeat("]}", 7, "");
        ASK.sound(unions, unions);
        String both = Lakes.repeat("{\"name\":\"R#\",\"type\":\"record\",\"fields\":[{\"name\":\"a\",\"type\":", 7, "")
                + arrays.substring(24 * 12, 24 * 15 + 8) + Lakes.repeat("}]}", 7, "");
        ASK.sound(both, both);
        String records = Lakes.repeat("{\"name\":\"R#\",\"type\":\"record\",\"fields\":[{\"name\":\"a\",\"type\":", 8, "") + "\"R0\""
                + Lakes.repeat("}]}", 8, "");
        ASK.sound(records, records);
        String most = mostBytes();
        ASK.sound(most, most);
        RecordLake full = new RecordLake();
        Lakes.tape(full, most);
        full.schema();
        CHECK.same("as many bytes as a tape can have", full.size(0), 4096);
        CHECK.same("the last of them", full.letter(4095, 0), ']');
        CHECK.says("THE PRINT of it, 64 bits");
        RecordLake lake = new RecordLake();
        Lakes.register(lake, 0, " { \"type\" : \"int\" } ");
        Lakes.register(lake, 1, "\"int\"");
        Lakes.register(lake, 2, "\"long\"");
        CHECK.yes("the same plain form has the same print", lake.print(0, 0) == lake.print(1, 0));
        CHECK.no("another one has another", lake.print(0, 0) == lake.print(2, 0));
        CHECK.same("that of \"int\"", lake.print(1, 0), 0x7275d51a3f395c8fL);
        CHECK.same("that of \"long\"", lake.print(2, 0), 0xd054e14493f41db7L);
    }
}
