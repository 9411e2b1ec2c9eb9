/** Promise 4: FAULTS 2 to 14, where they are, and which comes first. */
public final class P04SchemaFaultTest {
    private static final Check CHECK = new Check();
    private static final RecordLake LAKE = new RecordLake();
    private static final String R = "{\"type\":\"record\",\"name\":\"R\",\"fields\":";

    public static void main(String[] args) {
        words();
        unions();
        objects();
        fixed();
        enums();
        records();
        defaults();
        order();
        many();
        deep();
        CHECK.finish("P04SchemaFaultTest");
    }

    private static void faulty(String text, int fault, int place) {
        Lakes.tape(LAKE, text);
        CHECK.same("schema() of " + text, LAKE.schema(), fault);
        CHECK.same("place() of " + text, LAKE.place(), place);
        CHECK.same("size(0) of " + text, LAKE.size(0), 0);
    }

    /** A text with a fault at the first byte of a part of it. */
    private static void faultyAt(String text, int fault, String part) {
        faulty(text, fault, text.indexOf(part));
    }

    private static void sound(String text) {
        Lakes.tape(LAKE, text);
        CHECK.same("schema() of " + text, LAKE.schema(), 0);
        CHECK.same("place() of " + text, LAKE.place(), RecordLake.NONE);
    }

    private static void words() {
        for (String word : new String[] {"null", "boolean", "int", "long", "bytes", "string"}) {
            sound("\"" + word + "\"");
            sound(" {\"type\":\"" + word + "\",\"x\":[]}");
            CHECK.same("plain form", Lakes.plain(LAKE), "\"" + word + "\"");
        }
        for (String v : new String[] {"1", "true", "false", "null"}) {
            faulty(" " + v, 2, 1);
            faulty("[\"int\"," + v + "]", 2, 7);
        }
        for (String v : new String[] {"\"\"", "\"Int\"", "\"array\"", "\"map\"", "\"record\"", "\"union\"", "\"ints\""}) {
            faulty(" " + v, 3, 1);
        }
    }

    private static void unions() {
        faulty("[]", 5, 0);
        faulty(" [[\"int\"]]", 4, 2);
        faulty("[[]]", 4, 1);
        sound("[\"int\"]");
        String sixteen = Lakes.repeat("{\"type\":\"fixed\",\"name\":\"F#\",\"size\":1}", 16, ",");
        sound("[" + sixteen + "]");
        faulty(" [" + sixteen + ",\"int\"]", 5, 1);
        faulty("[\"int\",\"long\", \"int\"]", 6, 15);
        faultyAt("[{\"type\":\"array\",\"items\":\"int\"},{\"type\":\"array\",\"items\":\"long\"}]", 6, "{\"type\":\"array\",\"items\":\"long");
        faultyAt("[{\"type\":\"map\",\"values\":\"int\"},{\"type\":\"map\",\"values\":\"long\"}]", 6, "{\"type\":\"map\",\"values\":\"long");
        sound("[{\"type\":\"map\",\"values\":\"int\"},{\"type\":\"array\",\"items\":\"int\"}]");
        faultyAt("[{\"type\":\"fixed\",\"name\":\"F\",\"size\":1},{\"type\":\"F\"}]", 6, "{\"type\":\"F\"}");
        faultyAt("[{\"type\":\"fixed\",\"name\":\"F\",\"size\":1},\"F\"]", 6, "\"F\"]");
        // A branch is looked at before it is held against the others.
        faultyAt("[{\"type\":\"array\",\"items\":\"int\"},{\"type\":\"array\",\"items\":\"foo\"}]", 3, "\"foo");
        faultyAt("[\"int\",\"int\",\"foo\"]", 6, "\"int\",\"foo");
        sound("[\"bytes\",\"string\",\"int\",\"long\",\"null\",\"boolean\"]");
        sound("{\"type\":\"array\",\"items\":[{\"type\":\"array\",\"items\":[\"int\"]}]}");
    }

    private static void objects() {
        faulty(" {}", 7, 1);
        faulty("{\"type\":[\"int\"]}", 7, 0);
        faulty("{\"type\":{\"type\":\"int\"}}", 7, 0);
        faulty("{\"type\":null}", 7, 0);
        faulty("{\"x\":1, \"type\":\"foo\"}", 3, 15);
        faulty(" {\"type\":\"array\",\"values\":\"int\"}", 8, 1);
        faulty(" {\"type\":\"map\",\"items\":\"int\"}", 8, 1);
        faulty("{\"type\":\"array\",\"items\":null}", 2, 24);
        sound("{\"items\":\"int\",\"type\":\"array\"}");
        sound("{\"type\":\"int\",\"name\":1,\"items\":2}");
    }

    private static void fixed() {
        faulty(" {\"type\":\"fixed\",\"size\":1}", 8, 1);
        faulty(" {\"type\":\"fixed\",\"size\":1,\"name\":1}", 8, 1);
        faultyAt("{\"type\":\"fixed\",\"name\":\"F\"}", 8, "{");
        for (String size : new String[] {"-1", "65", "9223372036854775807", "\"1\"", "null", "[]"}) {
            faultyAt("{\"type\":\"fixed\",\"name\":\"F\",\"size\": " + size + "}", 10, size + "}");
        }
        for (String size : new String[] {"0", "-0", "64"}) {
            sound("{\"type\":\"fixed\",\"name\":\"F\",\"size\":" + size + "}");
        }
        for (String name : new String[] {"", "1a", "a-b", "a b", "\\u00e9", "int", "null", "string", "array", "map", "fixed",
            "enum", "record", "abcdefghijklmnopqrstuvwxyz0123456"}) {
            faultyAt("{\"type\":\"fixed\",\"size\":1,\"name\": \"" + name + "\"}", 9, "\"" + name + "\"}");
        }
        for (String name : new String[] {"a", "_", "_1", "Z9_", "union", "size", "abcdefghijklmnopqrstuvwxyz012345"}) {
            sound("{\"type\":\"fixed\",\"size\":1,\"name\":\"" + name + "\"}");
        }
        String twice = "[{\"type\":\"fixed\",\"name\":\"F\",\"size\":1},{\"type\":\"enum\",\"name\":  \"F\",\"symbols\":[\"a\"]}]";
        faultyAt(twice, 9, "\"F\",\"symbols");
    }

    private static void enums() {
        String e = "{\"type\":\"enum\",\"name\":\"E\"";
        faulty(e + "}", 8, 0);
        faultyAt(e + ",\"symbols\":\"a\"}", 11, "\"a\"");
        faultyAt(e + ",\"symbols\":{}}", 11, "{}");
        faultyAt(e + ",\"symbols\":[]}", 11, "[]");
        faultyAt(e + ",\"symbols\":[\"a\",\"\",1]}", 11, "\"\"");
        faultyAt(e + ",\"symbols\":[\"a\",1]}", 11, "1");
        faultyAt(e + ",\"symbols\":[\"a\",\"2\"]}", 11, "\"2\"");
        faultyAt(e + ",\"symbols\":[\"a\",\"b\",\"\\u0061\",1]}", 11, "\"\\u0061\"");
        String all = Lakes.repeat("\"s#\"", 32, ",");
        sound(e + ",\"symbols\":[" + all + "]}");
        faultyAt(e + ",\"symbols\":[" + all + ",\"t\"]}", 11, "[\"s0\"");
        sound(e + ",\"symbols\":[\"int\",\"enum\",\"E\"],\"default\":\"E\"}");
        faultyAt(e + ",\"symbols\":[\"a\"],\"default\": \"b\"}", 12, "\"b\"");
        faultyAt(e + ",\"symbols\":[\"a\"],\"default\": null}", 12, "null");
        faultyAt(e + ",\"default\":1,\"symbols\":[1]}", 11, "1]");
    }

    private static void records() {
        faulty(" {\"type\":\"record\",\"name\":\"R\"}", 8, 1);
        faultyAt(R + "1}", 11, "1}");
        faultyAt(R + "{}}", 11, "{}}");
        sound(R + "[]}");
        faultyAt(R + "[\"a\"]}", 11, "\"a\"");
        faultyAt(R + "[ {}]}", 8, "{}");
        faultyAt(R + "[ {\"name\":1,\"type\":\"int\"}]}", 8, "{\"name\":1");
        faultyAt(R + "[{\"name\": \"1\",\"type\":\"int\"}]}", 9, "\"1\"");
        faultyAt(R + "[ {\"name\":\"a\"}]}", 8, "{\"name\":\"a");
        faultyAt(R + "[{\"name\":\"a\",\"type\":7}]}", 2, "7");
        String two = R + "[{\"name\":\"a\",\"type\":\"int\"},{\"name\": \"a\"}]}";
        faultyAt(two, 9, "\"a\"}]}");
        String all = Lakes.repeat("{\"name\":\"f#\",\"type\":\"int\"}", 32, ",");
        sound(R + "[" + all + "]}");
        faultyAt(R + "[" + all + ",1]}", 11, "[{\"name\":\"f0");
        sound(R + "[{\"name\":\"int\",\"type\":\"int\"},{\"name\":\"R\",\"type\":\"R\"}]}");
        // Its name is defined before its fields are looked at, wherever it stands.
        sound("{\"fields\":[{\"type\":\"R\",\"name\":\"a\"}],\"name\":\"R\",\"type\":\"record\"}");
        faultyAt(R + "[{\"name\":\"a\",\"type\":\"S\"}]}", 3, "\"S\"");
        faultyAt("[\"R\"," + R + "[]}]", 3, "\"R\"");
        // Names are of one text alone.
        sound(R + "[]}");
        faulty("\"R\"", 3, 0);
    }

    private static void fit(String type, String value) {
        sound(R + "[{\"name\":\"a\",\"type\":" + type + ",\"default\":" + value + "}]}");
    }

    /** A default with a value inside, marked by a blank before it, that does not fit. */
    private static void misfit(String type, String value) {
        String text = R + "[{\"name\":\"a\",\"type\":" + type + ",\"default\":" + value + "}]}";
        faulty(text, 12, text.indexOf(' ') + 1);
    }

    private static void defaults() {
        fit("\"null\"", "null");
        misfit("\"null\"", " 0");
        fit("\"boolean\"", "true");
        misfit("\"boolean\"", " \"true\"");
        fit("\"int\"", "2147483647");
        fit("\"int\"", "-2147483648");
        misfit("\"int\"", " 2147483648");
        misfit("\"int\"", " -2147483649");
        misfit("\"int\"", " \"1\"");
        fit("\"long\"", "-9223372036854775808");
        misfit("\"long\"", " null");
        fit("\"bytes\"", "\"\\u00ff\"");
        fit("\"string\"", "\"\"");
        misfit("\"string\"", " 1");
        misfit("\"bytes\"", " []");
        String fixed = "{\"type\":\"fixed\",\"name\":\"F\",\"size\":2}";
        fit(fixed, "\"a\\u0000\"");
        misfit(fixed, " \"a\"");
        misfit(fixed, " \"abc\"");
        misfit(fixed, " 12");
        String symbols = "{\"type\":\"enum\",\"name\":\"E\",\"symbols\":[\"x\",\"y\"],\"default\":\"x\"}";
        fit(symbols, "\"y\"");
        misfit(symbols, " \"z\"");
        misfit(symbols, " 0");
        String array = "{\"type\":\"array\",\"items\":\"int\"}";
        fit(array, "[]");
        fit(array, "[1,2]");
        misfit(array, " {}");
        misfit(array, "[1, null,\"x\"]");
        String map = "{\"type\":\"map\",\"values\":\"int\"}";
        fit(map, "{}");
        fit(map, "{\"x\":1,\"y\":2}");
        misfit(map, " []");
        misfit(map, "{\"x\":1,\"y\": \"b\",\"z\":null}");
        fit("[\"null\",\"int\"]", "null");
        misfit("[\"null\",\"int\"]", " 1");
        misfit("[" + array + ",\"null\"]", "[ null]");
        inRecords();
    }

    private static void inRecords() {
        String inner = "{\"type\":\"record\",\"name\":\"S\",\"fields\":[{\"name\":\"x\",\"type\":\"int\"},{\"name\":\"y\",\"type\":\"int\"}]}";
        fit(inner, "{\"y\":1,\"x\":2,\"z\":null}");
        misfit(inner, " {\"x\":1}");
        misfit(inner, " []");
        // Records in order of their fields, not of the text.
        misfit(inner, "{\"y\":null,\"x\": null}");
        misfit(inner, "{\"x\": null}");
        misfit(inner, " {\"y\":null}");
        fit("[\"null\",\"R\"]", "null");
        misfit("\"R\"", " {}");
        fit("{\"type\":\"array\",\"items\":\"R\"}", "[{\"a\":[{\"a\":[]},{\"a\":[]}]}]");
        misfit("{\"type\":\"array\",\"items\":\"R\"}", "[{\"a\":[{\"a\":[]}, {}]}]");
        // A field's default comes behind those of the fields in its type, and behind all other faults.
        String nested = R + "[{\"name\":\"a\",\"default\":1,\"type\":{\"type\":\"record\",\"name\":\"S\",\"fields\":["
                + "{\"name\":\"x\",\"type\":\"int\",\"default\": \"in\"}]}}]}";
        faultyAt(nested, 12, "\"in\"");
        String inOrder = R + "[{\"name\":\"a\",\"type\":\"int\",\"default\": \"in\"},{\"name\":\"b\",\"type\":\"int\",\"default\":\"x\"}]}";
        faultyAt(inOrder, 12, "\"in\"");
        String later = R + "[{\"name\":\"a\",\"type\":\"int\",\"default\":\"in\"},{\"name\":\"b\",\"type\": \"foo\"}]}";
        faultyAt(later, 3, "\"foo\"");
        // Only a field's and an enum's default count.
        sound("{\"type\":\"int\",\"default\":\"x\"}");
        sound("{\"type\":\"record\",\"name\":\"R\",\"fields\":[],\"default\":7}");
    }

    private static void order() {
        // "type" before all else, then "name", then what the kind wants.
        faulty("{\"name\":1,\"items\":1}", 7, 0);
        faultyAt("{\"type\":\"fixed\",\"name\":\"1\",\"size\":-1}", 9, "\"1\"");
        faultyAt("{\"type\":\"enum\",\"name\":\"1\"}", 9, "\"1\"");
        faultyAt("{\"type\":\"record\",\"name\":\"int\",\"fields\":1}", 9, "\"int\"");
        faultyAt(R + "[{\"name\":\"1\"}]}", 9, "\"1\"");
        faultyAt(R + "[{\"name\":\"a\",\"type\":\"x\"},1]}", 3, "\"x\"");
        Lakes.tape(LAKE, "{\"type\" :\"int\"}");
        LAKE.schema();
        CHECK.same("the plain form is there", LAKE.size(0), 5);
        faulty("[]", 5, 0);
    }

    /** 128 schemas are the most: records of words, in a union of 16. */
    private static void many() {
        String seven = Lakes.repeat("{\"name\":\"f#\",\"type\":\"int\"}", 7, ",");
        StringBuilder all = new StringBuilder("[");
        for (int i = 0; i < 15; i++) {
            all.append("{\"type\":\"record\",\"name\":\"R" + i + "\",\"fields\":[" + seven + "]},");
        }
        // 1 + 15 * 8 = 121; the last branch brings 7.
        String six = Lakes.repeat("{\"name\":\"f#\",\"type\":\"int\"}", 6, ",");
        String head = all + "{\"type\":\"record\",\"name\":\"S\",\"fields\":[" + six;
        sound(head + "]}]");
        String more = head + ",{\"name\":\"g\",\"type\": \"foo\"}]}]";
        faulty(more, 13, more.indexOf("\"foo\""));
        // A name that stands for a schema is one that is looked at, too.
        String names = head.replace("\"fields\":[" + six, "\"fields\":[" + six.replace("\"int\"", "\"R0\"")) + "]}]";
        sound(names);
        String tooManyNames = names.substring(0, names.length() - 3) + ",{\"name\":\"g\",\"type\": \"R1\"}]}]";
        faulty(tooManyNames, 13, tooManyNames.indexOf(" \"R1\"") + 1);
    }

    private static String arrays(int n, String inner) {
        return Lakes.repeat("{\"type\":\"array\",\"items\":", n, "") + inner + Lakes.repeat("}", n, "");
    }

    private static void deep() {
        sound(arrays(15, "\"int\""));
        faulty(arrays(16, "\"int\""), 14, 16 * 24);
        faulty(arrays(16, "1"), 14, 16 * 24);
        sound(arrays(14, "[\"int\"]"));
        faulty(arrays(15, "[\"int\"]"), 14, 15 * 24 + 1);
        // 13 comes before 14.
        String seven = Lakes.repeat("{\"name\":\"f#\",\"type\":\"int\"}", 28, ",");
        StringBuilder all = new StringBuilder("[");
        for (int i = 0; i < 3; i++) {
            all.append("{\"type\":\"record\",\"name\":\"R" + i + "\",\"fields\":[" + seven + "]},");
        }
        // 1 + 3 * 29 = 88, and 40 of which the last lies in 16 others.
        String rest = Lakes.repeat("{\"name\":\"f#\",\"type\":\"int\"}", 24, ",");
        String last = all + "{\"type\":\"record\",\"name\":\"S\",\"fields\":[" + rest + ",{\"name\":\"g\",\"type\":" + arrays(14, " 1") + "}]}]";
        faulty(last, 14, last.indexOf(" 1}") + 1);
        String one = last.replace("{\"name\":\"g\"", "{\"name\":\"h\",\"type\":\"int\"},{\"name\":\"g\"");
        faulty(one, 13, one.indexOf(" 1}") + 1);
    }
}
