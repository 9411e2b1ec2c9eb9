/** Part 2 of the document, SCHEMAS: each sentence that names an edge, on both of its sides. */
public final class Edges2SchemasTest {
    private static final Check CHECK = new Check();
    private static final SchemaAsker ASK = new SchemaAsker(CHECK);
    private static final String[] WORDS = {"null", "boolean", "int", "long", "bytes", "string"};
    private static final String[] KINDS = {"array", "map", "fixed", "enum", "record"};
    private static final String NAME_32 = "abcdefghijklmnopqrstuvwxyz_01234";
    /** A value of each kind that is no string, no list and no object. */
    private static final String[] OTHERS = {"1", "-0", "true", "false", "null"};

    public static void main(String[] args) {
        names();
        manySchemas();
        deepSchemas();
        strings();
        unions();
        objects();
        collections();
        namedOnes();
        fixedOnes();
        enums();
        records();
        fieldsOfRecords();
        others();
        CHECK.finish("Edges2SchemasTest");
    }

    private static String record(String fields) {
        return "{\"type\":\"record\",\"name\":\"R\",\"fields\":[" + fields + "]}";
    }

    private static String field(String name, String type) {
        return "{\"name\":\"" + name + "\",\"type\":" + type + "}";
    }

    private static String fixed(String name) {
        return "{\"type\":\"fixed\",\"name\":\"" + name + "\",\"size\":1}";
    }

    /** Each place where a name stands, and the fault of what is none there. */
    private static void name(String name, boolean isName) {
        String[] places = {"{\"type\":\"fixed\",\"size\":1,\"name\":~#}", "{\"type\":\"enum\",\"symbols\":[\"a\"],\"name\":~#}",
            "{\"type\":\"record\",\"fields\":[],\"name\":~#}", "{\"type\":\"enum\",\"name\":\"E\",\"symbols\":[~#]}",
            record("{\"type\":\"int\",\"name\":~#}")};
        int[] faults = {9, 9, 9, 11, 9};
        for (int i = 0; i < places.length; i++) {
            String text = places[i].replace("#", "\"" + name + "\"");
            if (isName) {
                ASK.sound(text.replace("~", ""));
            } else {
                ASK.marked(text, faults[i]);
            }
        }
    }

    private static void names() {
        CHECK.says("A NAME is 1 .. 32 of letters, digits and _, no digit first.");
        name("", false);
        name("a", true);
        name(NAME_32, true);
        name(NAME_32 + "5", false);
        for (int b = 32; b < 127; b++) {
            boolean isLetter = b >= 'a' && b <= 'z' || b >= 'A' && b <= 'Z' || b == '_';
            boolean isDigit = b >= '0' && b <= '9';
            String letter = b == '"' || b == '\\' || b == '~' ? String.format("\\u%04x", b) : "" + (char) b;
            name(letter, isLetter);
            name("a" + letter, isLetter || isDigit);
            name("a" + letter + "b", isLetter || isDigit);
        }
        for (int b : new int[] {0, 31, 127, 128, 170, 192, 255}) {
            name(String.format("\\u%04x", b), false);
            name("a" + String.format("\\u%04x", b), false);
        }
    }

    /** Records of n words each in a union: 1 + n + 1 for each. */
    private static String records(int count, int words, String last) {
        StringBuilder all = new StringBuilder("[");
        for (int i = 0; i < count; i++) {
            all.append("{\"type\":\"record\",\"name\":\"R").append(i).append("\",\"fields\":[");
            all.append(Lakes.repeat(field("f#", "\"int\""), words, ",")).append("]},");
        }
        return all + last + "]";
    }

    private static void manySchemas() {
        CHECK.says("13 there are 128 already (each value that is looked at as a schema is one): at v.");
        // 1 + 6 * 21 = 127, and a last one of each kind.
        ASK.sound(records(6, 20, "\"null\""));
        ASK.sound(records(6, 20, "{\"type\":\"null\"}"));
        ASK.sound(records(6, 20, fixed("F")));
        ASK.sound(records(6, 20, "{\"type\":\"record\",\"name\":\"S\",\"fields\":[]}"));
        ASK.marked(records(6, 20, "{\"type\":\"array\",\"items\":~\"null\"}"), 13);
        ASK.marked(records(6, 20, "{\"type\":\"map\",\"values\":~\"R0\"}"), 13);
        ASK.marked(records(6, 20, "{\"type\":\"array\",\"items\":~[]}"), 13);
        ASK.marked(records(6, 20, "{\"type\":\"array\",\"items\":~7}"), 13);
        ASK.marked(records(6, 20, "{\"type\":\"array\",\"items\":~{}}"), 13);
        ASK.marked(records(6, 20, "\"null\",~\"null\""), 13);
        ASK.marked(records(6, 20, "{\"type\":\"record\",\"name\":\"S\",\"fields\":[" + field("a", "~\"foo\"") + "]}"), 13);
        // A name that is looked at is one.
        ASK.sound(records(6, 19, "\"null\",{\"type\":\"array\",\"items\":[" + Lakes.repeat("\"R#\"", 4, ",") + "]}"));
        ASK.marked(records(6, 19, "\"null\",{\"type\":\"array\",\"items\":[" + Lakes.repeat("\"R#\"", 4, ",") + ",~\"R4\"]}"), 13);
        // Symbols, defaults and members that do not count are none.
        ASK.sound(records(6, 20, "{\"type\":\"enum\",\"name\":\"E\",\"symbols\":[" + Lakes.repeat("\"s#\"", 32, ",") + "],\"x\":[[1,2],[3]]}"));
        CHECK.says("14 it lies in 16 others: at v.");
        // 13 stands before 14: 1 + 5 * 21 = 106, and 22 of which the last lies in 16 others.
        String sixWords = Lakes.repeat(field("g#", "\"int\""), 6, ",") + ",";
        String deep = "{\"type\":\"record\",\"name\":\"S\",\"fields\":[#" + field("a", arrays(14, "~\"foo\"")) + "]}";
        ASK.marked(records(5, 20, deep.replace("#", sixWords)), 14);
        ASK.marked(records(5, 20, deep.replace("#", sixWords + field("b", "\"int\"") + ",")), 13);
    }

    private static String arrays(int n, String inner) {
        return Lakes.repeat("{\"type\":\"array\",\"items\":", n, "") + inner + Lakes.repeat("}", n, "");
    }

    private static void deepSchemas() {
        String[] before = {"{\"type\":\"array\",\"items\":", "{\"type\":\"map\",\"values\":"};
        for (String outer : before) {
            String text = Lakes.repeat(outer, 15, "") + "#" + Lakes.repeat("}", 15, "");
            ASK.sound(text.replace("#", "\"int\""));
            for (String inner : new String[] {"\"int\"", "\"foo\"", "[]", "{}", "1"}) {
                ASK.marked(text.replace("#", outer + "~" + inner + "}"), 14);
            }
        }
        // Unions lie in others and others in them: array 0, union 1, array 2 ..
        String pairs = Lakes.repeat("{\"type\":\"array\",\"items\":[", 7, "") + "#" + Lakes.repeat("]}", 7, "");
        ASK.sound(pairs.replace("#", arrays(1, "\"int\"")));
        ASK.marked(pairs.replace("#", arrays(1, "[~\"int\"]")), 14);
        // A record is one, its field none: three and twelve arrays are 15.
        String three = Lakes.repeat("{\"type\":\"record\",\"name\":\"R#\",\"fields\":[{\"name\":\"a\",\"type\":", 3, "") + "@"
                + Lakes.repeat("}]}", 3, "");
        ASK.sound(three.replace("@", arrays(12, "\"int\"")));
        ASK.marked(three.replace("@", arrays(13, "~\"int\"")), 14);
        // A name stands where it stands, however deep what it names lies.
        ASK.sound(three.replace("@", arrays(12, "\"R0\"")));
        ASK.marked(three.replace("@", arrays(13, "~\"R0\"")), 14);
    }

    private static void strings() {
        CHECK.says("A string: one of the six words: that");
        for (String word : WORDS) {
            ASK.sound("\"" + word + "\"", "\"" + word + "\"");
            ASK.marked(" ~\"" + word + "s\"", 3);
            ASK.marked(" ~\"" + word.substring(1) + "\"", 3);
            ASK.marked(" ~\"" + word.toUpperCase() + "\"", 3);
        }
        for (String kind : KINDS) {
            ASK.marked(" ~\"" + kind + "\"", 3);
        }
        ASK.marked("~\"\"", 3);
        letters();
        CHECK.says("the name of a fixed, enum or record that is defined (before it in this text; each text by itself): that; else 3 at v.");
        ASK.sound("[" + fixed("F") + ",{\"type\":\"array\",\"items\":\"F\"}]");
        ASK.marked("[{\"type\":\"array\",\"items\":~\"F\"}," + fixed("F") + "]", 3);
        ASK.sound("[{\"type\":\"enum\",\"name\":\"E\",\"symbols\":[\"a\"]},{\"type\":\"map\",\"values\":\"E\"}]");
        ASK.marked("[{\"type\":\"enum\",\"name\":\"E\",\"symbols\":[\"a\"]},{\"type\":\"map\",\"values\":~\"a\"}]", 3);
        ASK.sound(record(field("a", "\"R\"")));
        ASK.marked(record(field("a", "~\"S\"")), 3);
        ASK.marked(record(field("a", "\"int\"") + "," + field("b", "~\"a\"")), 3);
        RecordLake lake = new RecordLake();
        CHECK.same("one text", Lakes.register(lake, 0, fixed("F")), 0);
        CHECK.same("another text has no F", Lakes.register(lake, 0, "\"F\""), -3);
        CHECK.same("nor has one of another subject", Lakes.register(lake, 1, "\"F\""), -3);
        CHECK.same("it may define its own", Lakes.register(lake, 0, fixed("F")), 1);
    }

    /** A word with one letter changed is another, wherever in it that is. */
    private static void letters() {
        for (String word : WORDS) {
            for (int i = 0; i < word.length(); i++) {
                ASK.marked("~\"" + changed(word, i) + "\"", 3);
                ASK.marked("{\"type\":~\"" + changed(word, i) + "\"}", 3);
            }
        }
        String[] texts = {"{\"type\":\"array\",\"items\":\"int\"}", "{\"type\":\"map\",\"values\":\"int\"}", fixed("F"),
            "{\"type\":\"enum\",\"name\":\"E\",\"symbols\":[\"a\"]}", "{\"type\":\"record\",\"name\":\"R\",\"fields\":[]}"};
        String[][] members = {{"type", "items"}, {"type", "values"}, {"type", "name", "size"}, {"type", "name", "symbols"}, {"type", "name", "fields"}};
        for (int k = 0; k < KINDS.length; k++) {
            for (int i = 0; i < KINDS[k].length(); i++) {
                ASK.marked(texts[k].replace("\"" + KINDS[k], "~\"" + changed(KINDS[k], i)), 3);
            }
            for (String member : members[k]) {
                for (int i = 0; i < member.length(); i++) {
                    ASK.marked("~" + texts[k].replace("\"" + member, "\"" + changed(member, i)), member.equals("type") ? 7 : 8);
                }
            }
        }
        for (int i = 0; i < 7; i++) {
            ASK.sound(record("{\"name\":\"a\",\"type\":\"int\",\"" + changed("default", i) + "\":null}"));
        }
    }

    private static String changed(String word, int i) {
        return word.substring(0, i) + "X" + word.substring(i + 1);
    }

    private static void unions() {
        CHECK.says("4 at v if it is a branch of a union");
        ASK.marked("[~[\"int\"]]", 4);
        ASK.marked("[\"int\",~[]]", 4);
        ASK.sound("[{\"type\":\"array\",\"items\":[\"int\"]}]");
        ASK.sound("{\"type\":\"map\",\"values\":[\"int\"]}");
        ASK.sound(record(field("a", "[\"int\"]")));
        CHECK.says("5 at v unless it has 1 .. 16");
        ASK.marked(" ~[ ]", 5);
        ASK.sound("[\"int\"]");
        ASK.sound("[" + Lakes.repeat(fixed("F#"), 16, ",") + "]");
        ASK.marked(" ~[" + Lakes.repeat(fixed("F#"), 17, ",") + "]", 5);
        // Before its branches are looked at.
        ASK.marked("~[" + Lakes.repeat("1", 17, ",") + "]", 5);
        ASK.marked("[" + Lakes.repeat("~1", 1, ",") + Lakes.repeat(",1", 15, "") + "]", 2);
        CHECK.says("each branch is looked at in order; 6, when it has been, at one that is as one before it");
        ASK.marked("[\"int\",~\"int\"]", 6);
        ASK.marked("[\"int\",\"long\",~\"int\",\"foo\"]", 6);
        ASK.marked("[\"int\",~\"foo\",\"int\"]", 3);
        ASK.marked("[{\"type\":\"array\",\"items\":\"int\"},{\"type\":\"array\",\"items\":~\"foo\"}]", 3);
        ASK.marked("[\"null\",\"int\",\"long\",~\"null\"]", 6);
        CHECK.says("(the same one of the six; both arrays; both maps; the same name)");
        for (String one : WORDS) {
            for (String other : WORDS) {
                if (one.equals(other)) {
                    ASK.marked("[\"" + one + "\",~\"" + other + "\"]", 6);
                    ASK.marked("[{\"type\":\"" + one + "\"},~\"" + other + "\"]", 6);
                } else {
                    ASK.sound("[\"" + one + "\",\"" + other + "\"]");
                }
            }
        }
        String array = "{\"type\":\"array\",\"items\":\"int\"}";
        String map = "{\"type\":\"map\",\"values\":\"int\"}";
        ASK.marked("[" + array + ",~" + array.replace("int", "null") + "]", 6);
        ASK.marked("[" + map + ",~" + map.replace("int", "null") + "]", 6);
        ASK.sound("[" + map + "," + array + ",\"int\"]");
        ASK.marked("[" + fixed("F") + ",~\"F\"]", 6);
        ASK.marked("[" + fixed("F") + ",~{\"type\":\"F\"}]", 6);
        ASK.sound("[" + fixed("F") + "," + fixed("G") + "," + record("") + "]");
        ASK.marked(record(field("a", "[\"R\",\"int\",~\"R\"]")), 6);
        // Unions of different places do not know of each other.
        ASK.sound("[" + array.replace("\"int\"", "[\"int\",\"null\"]") + "," + map.replace("\"int\"", "[\"int\",\"null\"]") + ",\"int\"]");
    }

    private static void objects() {
        CHECK.says("7 at v unless its member \"type\" is a string; call that t.");
        ASK.marked(" ~{}", 7);
        ASK.marked("~{\"typ\":\"int\"}", 7);
        ASK.sound("{\"type\":\"int\"}");
        for (String other : OTHERS) {
            ASK.marked("~{\"type\":" + other + "}", 7);
        }
        ASK.marked("~{\"type\":[\"int\"]}", 7);
        ASK.marked("~{\"type\":{\"type\":\"int\"}}", 7);
        CHECK.says("One of the six words: that.");
        for (String word : WORDS) {
            ASK.sound("{\"name\":1,\"type\":\"" + word + "\",\"items\":2,\"size\":-1,\"symbols\":0}", "\"" + word + "\"");
        }
        CHECK.says("Any other t: the name of one that is defined: that; else 3 at t.");
        ASK.sound("[" + fixed("F") + ",{\"type\":\"array\",\"items\":{\"type\":\"F\",\"size\":9}}]");
        ASK.marked("{\"name\":\"G\",\"type\":~\"G\"}", 3);
        ASK.marked("{\"type\":~\"\"}", 3);
        ASK.marked("{\"type\":~\"union\"}", 3);
        ASK.marked("[{\"type\":~\"F\"}," + fixed("F") + "]", 3);
    }

    private static void collections() {
        CHECK.says("array: 8 at v unless there is a member \"items\", whose schema is that of its items");
        ASK.marked(" ~{\"type\":\"array\"}", 8);
        ASK.marked(" ~{\"type\":\"array\",\"values\":\"int\"}", 8);
        ASK.sound("{\"type\":\"array\",\"items\":\"int\"}");
        ASK.marked("{\"type\":\"array\",\"items\":~null}", 2);
        ASK.marked("{\"type\":\"array\",\"items\":~[]}", 5);
        CHECK.says("map: likewise \"values\"");
        ASK.marked(" ~{\"type\":\"map\"}", 8);
        ASK.marked(" ~{\"type\":\"map\",\"items\":\"int\"}", 8);
        ASK.sound("{\"type\":\"map\",\"values\":\"int\"}");
        ASK.marked("{\"type\":\"map\",\"values\":~1}", 2);
    }

    private static void namedOnes() {
        String[] rest = {"\"type\":\"fixed\",\"size\":1", "\"type\":\"enum\",\"symbols\":[\"a\"]", "\"type\":\"record\",\"fields\":[]"};
        for (int i = 0; i < 3; i++) {
            CHECK.says("fixed, enum, record: 8 at v unless there is a member \"name\" that is a string");
            ASK.marked(" ~{" + rest[i] + "}", 8);
            for (String other : OTHERS) {
                ASK.marked(" ~{" + rest[i] + ",\"name\":" + other + "}", 8);
            }
            ASK.marked(" ~{" + rest[i] + ",\"name\":[]}", 8);
            ASK.marked(" ~{" + rest[i] + ",\"name\":{}}", 8);
            ASK.sound("{" + rest[i] + ",\"name\":\"N\"}");
            CHECK.says("9 at that if it is no name, or one of the six words, array, map, fixed, enum, record, or defined already.");
            for (String word : WORDS) {
                ASK.marked("{" + rest[i] + ",\"name\":~\"" + word + "\"}", 9);
                ASK.sound("{" + rest[i] + ",\"name\":\"" + word + "_\"}");
            }
            for (String kind : KINDS) {
                ASK.marked("{" + rest[i] + ",\"name\":~\"" + kind + "\"}", 9);
                ASK.sound("{" + rest[i] + ",\"name\":\"" + kind + "1\"}");
            }
            ASK.sound("{" + rest[i] + ",\"name\":\"union\"}");
            for (int j = 0; j < 3; j++) {
                ASK.marked("[{" + rest[i] + ",\"name\":\"N\"},{" + rest[j] + ",\"name\":~\"N\"}]", 9);
                ASK.sound("[{" + rest[i] + ",\"name\":\"N\"},{" + rest[j] + ",\"name\":\"n\"}]");
            }
        }
        CHECK.says("It is defined from here on.");
        ASK.marked(record(field("a", fixed("~").replace("\"~\"", "~\"R\""))), 9);
        ASK.sound(record(field("a", "[\"null\",\"R\"]")));
        ASK.sound(record(field("a", fixed("F")) + "," + field("b", "\"F\"")));
        // Names of fields and symbols are no schemas' names.
        ASK.sound(record(field("a", fixed("a")) + "," + field("R", "\"a\"")));
        // What comes before the name in order of looking has it not: there is nothing, so it may stand behind in the text.
        ASK.sound("{\"fields\":[" + field("a", "[\"null\",\"R\"]") + "],\"type\":\"record\",\"name\":\"R\"}");
    }

    private static void fixedOnes() {
        CHECK.says("fixed: 8 at v unless there is a member \"size\"");
        ASK.marked(" ~{\"type\":\"fixed\",\"name\":\"F\"}", 8);
        ASK.sound("{\"type\":\"fixed\",\"name\":\"F\",\"size\":1}");
        CHECK.says("10 at it unless it is a number 0 .. 64.");
        String text = "{\"type\":\"fixed\",\"name\":\"F\",\"size\":~#}";
        for (String size : new String[] {"-1", "65", "-9223372036854775808", "9223372036854775807", "4294967296", "4294967297", "true",
            "false", "null", "\"1\"", "[]", "[1]", "{}"}) {
            ASK.marked(text.replace("#", size), 10);
        }
        for (String size : new String[] {"0", "-0", "1", "9", "10", "11", "19", "20", "63", "64"}) {
            ASK.sound(text.replace("~#", size), "{\"name\":\"F\",\"type\":\"fixed\",\"size\":" + size.replace("-", "") + "}");
        }
    }

    private static void enums() {
        String e = "{\"type\":\"enum\",\"name\":\"E\"";
        CHECK.says("enum: 8 at v unless there is a member \"symbols\"");
        ASK.marked(" ~" + e + "}", 8);
        ASK.sound(e + ",\"symbols\":[\"a\"]}");
        CHECK.says("11 at it unless it is a list of 1 .. 32");
        for (String other : OTHERS) {
            ASK.marked(e + ",\"symbols\":~" + other + "}", 11);
        }
        ASK.marked(e + ",\"symbols\":~\"a\"}", 11);
        ASK.marked(e + ",\"symbols\":~{\"a\":\"b\"}}", 11);
        ASK.marked(e + ",\"symbols\":~[]}", 11);
        ASK.sound(e + ",\"symbols\":[" + Lakes.repeat("\"s#\"", 32, ",") + "]}");
        ASK.marked(e + ",\"symbols\":~[" + Lakes.repeat("\"s#\"", 33, ",") + "]}", 11);
        ASK.marked(e + ",\"symbols\":~[" + Lakes.repeat("1", 33, ",") + "]}", 11);
        ASK.marked(e + ",\"symbols\":[~1" + Lakes.repeat(",1", 31, "") + "]}", 11);
        CHECK.says("11 at the first in it that is no string, no name, or there before it");
        for (String other : OTHERS) {
            ASK.marked(e + ",\"symbols\":[\"a\",~" + other + ",1]}", 11);
        }
        ASK.marked(e + ",\"symbols\":[\"a\",~[],1]}", 11);
        ASK.marked(e + ",\"symbols\":[\"a\",\"b\",~\"a\",1]}", 11);
        ASK.marked(e + ",\"symbols\":[\"a\",~\"\\u0061\"]}", 11);
        ASK.sound(e + ",\"symbols\":[\"a\",\"A\",\"aa\",\"E\",\"int\",\"enum\"]}");
        CHECK.says("a member \"default\": 12 at it unless it is a string that is one of them.");
        ASK.sound(e + ",\"symbols\":[\"a\",\"b\"],\"default\":\"a\"}");
        ASK.sound(e + ",\"default\":\"\\u0062\",\"symbols\":[\"a\",\"b\"]}");
        for (String other : OTHERS) {
            ASK.marked(e + ",\"symbols\":[\"a\",\"b\"],\"default\":~" + other + "}", 12);
        }
        for (String other : new String[] {"\"c\"", "\"\"", "\"A\"", "\"ab\"", "[\"a\"]", "{\"a\":\"a\"}"}) {
            ASK.marked(e + ",\"symbols\":[\"a\",\"b\"],\"default\":~" + other + "}", 12);
        }
        // It is looked at with the enum: before what comes behind it in the text, and behind the symbols.
        ASK.marked("[" + e + ",\"symbols\":[\"a\"],\"default\":~1},\"foo\"]", 12);
        ASK.marked(e + ",\"default\":1,\"symbols\":[~1]}", 11);
    }

    private static void records() {
        String r = "{\"type\":\"record\",\"name\":\"R\"";
        CHECK.says("record: 8 at v unless there is a member \"fields\"");
        ASK.marked(" ~" + r + "}", 8);
        ASK.sound(r + ",\"fields\":[]}");
        CHECK.says("11 at it unless it is a list of 32 at most");
        for (String other : OTHERS) {
            ASK.marked(r + ",\"fields\":~" + other + "}", 11);
        }
        ASK.marked(r + ",\"fields\":~\"a\"}", 11);
        ASK.marked(r + ",\"fields\":~" + field("a", "\"int\"") + "}", 11);
        ASK.sound(record(Lakes.repeat(field("f#", "\"int\""), 32, ",")));
        ASK.marked(r + ",\"fields\":~[" + Lakes.repeat(field("f#", "\"int\""), 33, ",") + "]}", 11);
        ASK.marked(r + ",\"fields\":~[" + Lakes.repeat("1", 33, ",") + "]}", 11);
        CHECK.says("then each in order: 11 at it unless it is an object");
        for (String other : OTHERS) {
            ASK.marked(record(field("a", "\"int\"") + ",~" + other), 11);
        }
        ASK.marked(record("~\"a\""), 11);
        ASK.marked(record("~[]"), 11);
        ASK.marked(record(field("a", "~\"foo\"") + ",1"), 3);
    }

    private static void fieldsOfRecords() {
        CHECK.says("8 at it unless it has a member \"name\" that is a string");
        ASK.marked(record(" ~{\"type\":\"int\"}"), 8);
        for (String other : OTHERS) {
            ASK.marked(record(" ~{\"type\":\"int\",\"name\":" + other + "}"), 8);
        }
        ASK.marked(record(" ~{\"type\":\"int\",\"name\":[]}"), 8);
        ASK.sound(record("{\"type\":\"int\",\"name\":\"a\"}"));
        CHECK.says("9 at that if it is no name, or that of a field before it");
        ASK.marked(record("{\"type\":\"int\",\"name\":~\"\"}"), 9);
        ASK.marked(record(field("a", "\"int\"") + "," + field("b", "\"int\"") + ",{\"type\":\"int\",\"name\":~\"a\"}"), 9);
        ASK.sound(record(field("a", "\"int\"") + "," + field("b", "\"int\"") + "," + field("A", "\"int\"")));
        // The six words, the kinds and what is defined may be a field's name.
        ASK.sound(record(field("int", "\"int\"") + "," + field("record", "\"int\"") + "," + field("R", "\"int\"")));
        // Fields of another record do not count.
        ASK.sound(record(field("a", "{\"type\":\"record\",\"name\":\"S\",\"fields\":[" + field("a", "\"int\"") + "]}") + "," + field("b", "\"S\"")));
        CHECK.says("8 at the field unless it has a member \"type\"; the schema of that.");
        ASK.marked(record(" ~{\"name\":\"a\"}"), 8);
        ASK.marked(record("{\"name\":~\"1\"}"), 9);
        ASK.marked(record("{\"name\":\"a\",\"type\":~null}"), 2);
        ASK.marked(record("{\"name\":\"a\",\"type\":~[]}"), 5);
        ASK.sound(record("{\"name\":\"a\",\"type\":[\"int\"]}"));
    }

    private static void others() {
        CHECK.says("Anything else: 2 at v.");
        for (String other : OTHERS) {
            ASK.marked(" ~" + other, 2);
            ASK.marked("[\"int\",~" + other + "]", 2);
            ASK.marked("{\"type\":\"array\",\"items\":~" + other + "}", 2);
            ASK.marked("{\"type\":\"map\",\"values\":~" + other + "}", 2);
            ASK.marked(record("{\"name\":\"a\",\"type\":~" + other + "}"), 2);
        }
        CHECK.says("Other members do not count.");
        ASK.sound("{\"x\":[[1],{\"type\":\"foo\"}],\"type\":\"int\",\"default\":[],\"fields\":3}", "\"int\"");
        ASK.sound("{\"type\":\"array\",\"values\":1,\"items\":\"int\",\"name\":2}", "{\"type\":\"array\",\"items\":\"int\"}");
        ASK.sound("{\"type\":\"fixed\",\"size\":1,\"name\":\"F\",\"symbols\":1,\"default\":\"too long\",\"fields\":2}");
        ASK.sound("{\"type\":\"record\",\"name\":\"R\",\"fields\":[{\"name\":\"a\",\"type\":\"int\",\"items\":1,\"fields\":2,\"doc\":3}],\"default\":1}");
    }
}
