/** Part 4 of the document, TOLD AGAIN, and promises 9 and 13: each sentence that names an edge, on both of its sides. */
public final class Edges4ToldAgainTest {
    private static final Check CHECK = new Check();
    private static final FitAsker FITS = new FitAsker(CHECK);
    private static final String[] WORDS = {"\"null\"", "\"boolean\"", "\"int\"", "\"long\"", "\"bytes\"", "\"string\""};
    private static final String UNRESOLVED = "UNRESOLVED";
    private static final String ENUM = "{\"type\":\"enum\",\"name\":\"E\",\"symbols\":[\"a\",\"b\"]}";
    private static final String FIXED = "{\"type\":\"fixed\",\"name\":\"F\",\"size\":2}";

    public static void main(String[] args) {
        words();
        writersUnions();
        readersUnions();
        rows();
        names();
        symbols();
        fields();
        defaults();
        deepRows();
        rowsBehindRows();
        matches();
        fitsUnions();
        fitsRest();
        askedAlready();
        whicheverFirst();
        CHECK.finish("Edges4ToldAgainTest");
    }

    private static String record(String fields) {
        return "{\"type\":\"record\",\"name\":\"R\",\"fields\":[" + fields + "]}";
    }

    private static String field(String name, String type) {
        return "{\"name\":\"" + name + "\",\"type\":" + type + "}";
    }

    private static String field(String name, String type, String value) {
        return "{\"name\":\"" + name + "\",\"type\":" + type + ",\"default\":" + value + "}";
    }

    private static String array(String items) {
        return "{\"type\":\"array\",\"items\":" + items + "}";
    }

    private static String map(String values) {
        return "{\"type\":\"map\",\"values\":" + values + "}";
    }

    /** A boolean comes before what is told, so that no row is without a byte. */
    private static String behindOne(String type) {
        return "{\"type\":\"record\",\"name\":\"Row\",\"fields\":[{\"name\":\"z\",\"type\":\"boolean\"},{\"name\":\"it\",\"type\":" + type + "}]}";
    }

    /** A datum of w told as r: the numbers that are due, or UNRESOLVED. By copy, and by read where w fits r. */
    private static void told(String w, String r, String due, int... datum) {
        RecordLake lake = new RecordLake();
        CHECK.same("register " + w, Lakes.register(lake, 0, behindOne(w)), 0);
        CHECK.same("register " + r, Lakes.register(lake, 1, behindOne(r)), 0);
        CHECK.same("load", Lakes.load(lake, 0, 0, Lakes.join(Lakes.bytes(1), Lakes.bytes(datum))), 1);
        int copied = lake.copy(0, 1, 0);
        String all = due.isEmpty() ? "1" : "1 " + due;
        if (due.equals(UNRESOLVED)) {
            CHECK.same(w + " told as " + r, copied, RecordLake.UNRESOLVED);
            CHECK.same("files()", lake.files(), 3);
            CHECK.no("so it does not fit", lake.fits(0, 0, 1, 0));
        } else {
            CHECK.same(w + " told as " + r, copied, 1);
            lake.read(1, 0, 0);
            CHECK.same("the bytes of " + w + " told as " + r, Lakes.out(lake), all);
        }
        if (lake.fits(0, 0, 1, 0)) {
            CHECK.same("a version behind it", Lakes.register(lake, 0, behindOne(r)), 1);
            CHECK.same("read", lake.read(0, 1, 0), all.split(" ").length);
            CHECK.same("OUT", Lakes.out(lake), all);
        }
    }

    private static void words() {
        CHECK.says("the same one of the six: as it is; INT as LONG; BYTES as STRING and STRING as BYTES: the same bytes");
        int[][] data = {{}, {1}, {255, 255, 255, 255, 15}, {254, 255, 255, 255, 255, 255, 255, 255, 255, 1}, {4, 0, 255}, {4, 0, 255}};
        for (int w = 0; w < 6; w++) {
            for (int r = 0; r < 6; r++) {
                boolean alike = w == r || w == 2 && r == 3 || w >= 4 && r >= 4;
                told(WORDS[w], WORDS[r], alike ? Lakes.numbers(Lakes.bytes(data[w])) : UNRESOLVED, data[w]);
            }
        }
        CHECK.says("UNRESOLVED: all others, a symbol or field of which there is neither.");
        String[] kinds = {array("\"int\""), map("\"int\""), FIXED, ENUM, record(""), "\"int\""};
        int[][] rows = {{0}, {0}, {1, 2}, {0}, {}, {0}};
        for (int w = 0; w < kinds.length; w++) {
            for (int r = 0; r < kinds.length; r++) {
                told(kinds[w], kinds[r], w == r ? Lakes.numbers(Lakes.bytes(rows[w])) : UNRESOLVED, rows[w]);
                FITS.due(w == r, kinds[w], kinds[r]);
            }
        }
    }

    private static void writersUnions() {
        CHECK.says("if w is a union: its branch's datum is told as r.");
        told("[\"int\"]", "\"int\"", "14", 0, 14);
        told("[\"null\",\"int\"]", "\"int\"", "14", 2, 14);
        told("[\"null\",\"int\"]", "\"int\"", UNRESOLVED, 0);
        told("[\"null\",\"int\"]", "\"null\"", "", 0);
        told("[\"null\",\"int\"]", "\"null\"", UNRESOLVED, 2, 14);
        told("[\"null\",\"int\"]", "[\"int\",\"null\"]", "2", 0);
        told("[\"null\",\"int\"]", "[\"int\",\"null\"]", "0 14", 2, 14);
        told("[\"null\",\"int\"]", "[\"null\"]", UNRESOLVED, 2, 14);
    }

    private static void readersUnions() {
        CHECK.says("Else if r is a union: the first branch that MATCHES w is taken, its number, and the datum told as that.");
        told("\"int\"", "[\"int\"]", "0 14", 14);
        told("\"int\"", "[\"null\",\"long\",\"int\"]", "2 14", 14);
        told("\"int\"", "[\"null\",\"int\",\"long\"]", "2 14", 14);
        told("\"long\"", "[\"int\",\"long\"]", "2 14", 14);
        told("\"long\"", "[\"int\",\"string\"]", UNRESOLVED, 14);
        told("\"bytes\"", "[\"string\",\"bytes\"]", "0 2 7", 2, 7);
        told("\"string\"", "[\"null\",\"bytes\",\"string\"]", "2 2 7", 2, 7);
        // A branch's number may want two bytes? 15 is the last there can be: one is enough.
        StringBuilder fifteen = new StringBuilder("[");
        for (int i = 0; i < 15; i++) {
            fifteen.append("{\"type\":\"fixed\",\"name\":\"G").append(i).append("\",\"size\":1},");
        }
        told("\"int\"", fifteen + "\"int\"]", "30 14", 14);
        // The first that matches is taken, whether it can be told so or not, and no other.
        told(ENUM, "[\"null\"," + ENUM.replace("\"a\",", "") + "]", UNRESOLVED, 0);
        told(ENUM, "[\"null\"," + ENUM.replace("\"a\",", "") + "]", "2 0", 2);
    }

    private static void rows() {
        CHECK.says("arrays, maps: all items (keys as they are)");
        told(array("\"int\""), array("\"long\""), "0", 0);
        told(array("\"int\""), array("[\"null\",\"long\"]"), "4 2 2 2 4 0", 4, 2, 4, 0);
        told(array("\"int\""), array("\"string\""), "0", 0);
        told(array("\"int\""), array("\"string\""), UNRESOLVED, 2, 2, 0);
        told(array("\"null\""), array("[\"null\"]"), "6 0 0 0 0", 6, 0);
        told(array("[\"int\",\"null\"]"), array("\"int\""), UNRESOLVED, 4, 0, 2, 2, 0);
        told(map("\"int\""), map("\"long\""), "0", 0);
        told(map("\"int\""), map("[\"long\"]"), "4 2 107 0 2 0 0 4 0", 4, 2, 'k', 2, 0, 4, 0);
        told(map("\"int\""), map("\"string\""), UNRESOLVED, 2, 0, 2, 0);
        told(map("\"int\""), map("\"string\""), "0", 0);
        CHECK.says("What is told is NORMAL.");
        told(array("\"int\""), array("\"int\""), "4 2 4 0", 2, 130, 0, 1, 4, 132, 0, 0);
    }

    private static void names() {
        CHECK.says("FIXED of the same name and size");
        told(FIXED, FIXED, "7 8", 7, 8);
        told(FIXED, FIXED.replace("F", "G"), UNRESOLVED, 7, 8);
        told(FIXED, FIXED.replace("F", "f"), UNRESOLVED, 7, 8);
        told(FIXED, FIXED.replace("2", "1"), UNRESOLVED, 7, 8);
        told(FIXED, FIXED.replace("2", "3"), UNRESOLVED, 7, 8);
        FITS.no(FIXED, FIXED.replace("2", "1"));
        FITS.no(FIXED, FIXED.replace("\"F\"", "\"FF\""));
        String none = FIXED.replace("2", "0");
        told(none, none, "");
        told(FIXED, "[" + FIXED.replace("\"F\"", "\"G\"") + "," + FIXED + "]", "2 7 8", 7, 8);
        told(FIXED, "[" + FIXED.replace("2", "3") + "]", UNRESOLVED, 7, 8);
    }

    private static void symbols() {
        CHECK.says("ENUM of the same name: the symbol of r that is the same, or else r's default");
        told(ENUM, ENUM, "2", 2);
        told(ENUM, ENUM.replace("\"a\",\"b\"", "\"b\",\"a\""), "0", 2);
        told(ENUM, ENUM.replace("\"E\"", "\"D\""), UNRESOLVED, 2);
        String less = ENUM.replace(",\"b\"", ",\"c\"");
        told(ENUM, less, "0", 0);
        told(ENUM, less, UNRESOLVED, 2);
        told(ENUM, less.replace("]}", "],\"default\":\"c\"}"), "2", 2);
        told(ENUM, less.replace("]}", "],\"default\":\"c\"}"), "0", 0);
        // The writer's own default is of no use.
        told(ENUM.replace("]}", "],\"default\":\"a\"}"), less, UNRESOLVED, 2);
        // Symbols are told apart by all of their letters.
        told(ENUM, ENUM.replace("\"b\"", "\"bb\""), UNRESOLVED, 2);
        told(ENUM.replace("\"b\"", "\"bb\""), ENUM, UNRESOLVED, 2);
    }

    private static void fields() {
        CHECK.says("RECORD of the same name: for each of r's fields in order: the datum of w's field of the same name, told as that; "
                + "or else its default, made into bytes.");
        String two = record(field("a", "\"int\"") + "," + field("b", "\"string\""));
        told(two, two, "14 2 7", 14, 2, 7);
        told(two, record(field("b", "\"bytes\"") + "," + field("a", "\"long\"")), "2 7 14", 14, 2, 7);
        told(two, record(field("b", "\"string\"")), "2 7", 14, 2, 7);
        told(two, record(""), "", 14, 2, 7);
        told(record(""), two, UNRESOLVED);
        told(record(""), record(field("a", "\"int\"", "7") + "," + field("b", "\"string\"", "\"x\"")), "14 2 120");
        told(two, two.replace("\"R\"", "\"S\""), UNRESOLVED, 14, 2, 7);
        told(two, record(field("a", "\"int\"") + "," + field("c", "\"int\"")), UNRESOLVED, 14, 2, 7);
        told(two, record(field("a", "\"int\"") + "," + field("c", "\"int\"", "-1")), "14 1", 14, 2, 7);
        // A default does not stand in where the writer has the field.
        told(two, record(field("a", "\"int\"", "1")), "14", 14, 2, 7);
        told(two, record(field("a", "\"string\"", "\"x\"")), UNRESOLVED, 14, 2, 7);
        FITS.no(two, record(field("a", "\"string\"", "\"x\"")));
        // The writer's own default is of no use.
        told(record(field("a", "\"int\"", "3")), record(field("b", "\"int\"")), UNRESOLVED, 14);
        // Fields are told apart by all of their letters.
        told(record(field("aa", "\"int\"")), record(field("a", "\"int\"")), UNRESOLVED, 14);
        told(record(field("a", "\"int\"")), record(field("aa", "\"int\"")), UNRESOLVED, 14);
        // 32 of them, told from the last to the first.
        StringBuilder there = new StringBuilder();
        StringBuilder back = new StringBuilder();
        int[] data = new int[32];
        StringBuilder due = new StringBuilder();
        for (int i = 0; i < 32; i++) {
            there.append(i == 0 ? "" : ",").append(field("f" + i, "\"int\""));
            back.append(i == 0 ? "" : ",").append(field("f" + (31 - i), "\"int\""));
            data[i] = i;
            due.append(i == 0 ? "" : " ").append(31 - i);
        }
        told(record(there.toString()), record(back.toString()), due.toString(), data);
    }

    private static void defaulted(String type, String value, String due) {
        told(record(""), record(field("d", type, value)), due);
    }

    private static void defaults() {
        CHECK.says("A default's bytes: a union's are of its first branch; a map's in order of the text.");
        defaulted("[\"null\",\"int\"]", "null", "0");
        defaulted("[\"int\",\"null\"]", "1", "0 2");
        defaulted(array("[\"int\",\"null\"]"), "[1,2]", "4 0 2 0 4 0");
        defaulted(array("[\"int\",\"null\"]"), "[]", "0");
        defaulted(map("\"int\""), "{\"b\":1,\"a\":2,\"\":3}", "6 2 98 2 2 97 4 0 6 0");
        defaulted(map("\"int\""), "{}", "0");
        defaulted(map("[\"null\"]"), "{\"\\u00ff\":null}", "2 2 255 0 0");
        defaulted(array("\"null\""), "[" + Lakes.repeat("null", 64, ",") + "]", "128 1 0");
        defaulted("\"string\"", "\"" + Lakes.repeat("x", 64, "") + "\"", "128 1" + Lakes.repeat(" 120", 64, ""));
        defaulted("\"int\"", "-2147483648", "255 255 255 255 15");
        defaulted("\"int\"", "2147483647", "254 255 255 255 15");
        defaulted("\"long\"", "-9223372036854775808", "255 255 255 255 255 255 255 255 255 1");
        defaulted("\"null\"", "null", "");
        defaulted("\"boolean\"", "false", "0");
        defaulted("\"boolean\"", "true", "1");
        defaulted(FIXED, "\"\\u0000\\u00ff\"", "0 255");
        defaulted(ENUM, "\"b\"", "2");
        String inner = "{\"type\":\"record\",\"name\":\"S\",\"fields\":[" + field("p", "\"int\"", "9") + "," + field("q", "[\"null\"]") + "]}";
        defaulted(inner, "{\"q\":null,\"o\":1,\"p\":3}", "6 0");
        defaulted("[" + inner + "]", "{\"q\":null,\"p\":3}", "0 6 0");
        deepDefault();
    }

    /** As deep as a text goes: three are around it, and it has 21 of a record that has itself. */
    private static void deepDefault() {
        RecordLake lake = new RecordLake();
        Lakes.register(lake, 0, record(field("z", "\"boolean\"")));
        Lakes.load(lake, 0, 0, 1);
        String deep = Lakes.repeat("[{\"d\":", 10, "") + "#" + Lakes.repeat("}]", 10, "");
        CHECK.same("register", Lakes.register(lake, 0, record(field("d", array("\"R\""), deep.replace("#", "[]")))), 1);
        CHECK.same("read", lake.read(0, 1, 0), 21);
        CHECK.same("OUT", Lakes.out(lake), Lakes.repeat("2", 10, " ") + Lakes.repeat(" 0", 11, ""));
        CHECK.same("one deeper", Lakes.register(lake, 0, record(field("d", array("\"R\""), deep.replace("#", "[{}]")))), -1);
    }

    /** Rows that lie as deep as they can, told again with their fields in another order, and what comes behind them. */
    private static void deepRows() {
        CHECK.says("7 a datum that lies in 32 others");
        String list = "{\"type\":\"record\",\"name\":\"L\",\"fields\":[#]}";
        String[] fields = {field("v", "\"boolean\""), field("n", "[\"null\",\"L\"]")};
        String w = list.replace("#", fields[0] + "," + fields[1]);
        String r = list.replace("#", fields[1] + "," + fields[0]);
        // Record 2 k, its fields 2 k + 1, the null 2 k + 2: with 15 records it lies in 30.
        byte[] row = Lakes.join(alternate(1, 2, 14), Lakes.bytes(1, 0));
        String due = Lakes.repeat("2", 14, " ") + " 0" + Lakes.repeat(" 1", 15, "");
        rowsTold(w, r, due, row);
        String items = list.replace("#", field("v", "\"boolean\"") + "," + field("n", array("\"L\"")));
        String back = list.replace("#", field("n", array("\"L\"")) + "," + field("v", "\"boolean\""));
        // The 16th array lies in 31.
        rowsTold(items, back, Lakes.repeat("2", 15, " ") + " 0 1" + Lakes.repeat(" 0 1", 15, ""),
                Lakes.join(alternate(1, 2, 15), Lakes.bytes(1), Lakes.many(16, 0)));
        rowsTold(items.replace("array", "map").replace("items", "values"), back.replace("array", "map").replace("items", "values"),
                Lakes.repeat("2 0", 15, " ") + " 0 1" + Lakes.repeat(" 0 1", 15, ""),
                Lakes.join(three(15), Lakes.bytes(1), Lakes.many(16, 0)));
    }

    private static byte[] alternate(int one, int other, int times) {
        byte[] row = new byte[2 * times];
        for (int i = 0; i < row.length; i++) {
            row[i] = (byte) (i % 2 == 0 ? one : other);
        }
        return row;
    }

    /** A boolean, a block of one item and its empty key. */
    private static byte[] three(int times) {
        byte[] row = new byte[0];
        for (int i = 0; i < times; i++) {
            row = Lakes.join(row, Lakes.bytes(1, 2, 0));
        }
        return row;
    }

    /** Three rows as they stand, without a record around them: each is told again, and found behind the others. */
    private static void rowsTold(String w, String r, String due, byte[] row) {
        RecordLake lake = new RecordLake();
        CHECK.same("register " + w, Lakes.register(lake, 0, w), 0);
        CHECK.same("register " + r, Lakes.register(lake, 0, r), 1);
        CHECK.same("load", Lakes.load(lake, 0, 0, Lakes.join(row, row, row)), 3);
        CHECK.same("copy", lake.copy(0, 0, 1), 3);
        for (int i = 0; i < 6; i++) {
            CHECK.same("read " + i, lake.read(0, 1, i), due.split(" ").length);
            CHECK.same("OUT of " + i, Lakes.out(lake), due);
        }
        CHECK.same("read as it was", lake.read(0, 0, 2), row.length);
        CHECK.same("OUT as it was", Lakes.out(lake), Lakes.numbers(row));
    }

    private static void rowsBehindRows() {
        CHECK.says("all of them in order are a new file of that table");
        rowsTold(array("\"int\""), array("\"long\""), "4 2 4 0", Lakes.bytes(4, 2, 4, 0));
        rowsTold(array(array("\"int\"")), array(array("[\"int\"]")), "4 2 0 8 0 4 0 8 0 6 0 0", Lakes.bytes(4, 2, 8, 0, 4, 8, 6, 0, 0));
        rowsTold(map(map("\"int\"")), map(map("\"long\"")), "4 0 2 0 8 0 0 0 0", Lakes.bytes(4, 0, 2, 0, 8, 0, 0, 0, 0));
        String two = record(field("a", "\"int\"") + "," + field("b", "\"int\""));
        String back = record(field("b", "\"int\"") + "," + field("a", "\"int\""));
        rowsTold(two, back, "4 2", Lakes.bytes(2, 4));
        rowsTold(two, record(field("a", "\"int\"")), "2", Lakes.bytes(2, 4));
        rowsTold(array(two), array(back), "4 4 2 8 6 0", Lakes.bytes(4, 2, 4, 6, 8, 0));
        rowsTold(array(two), array(record(field("a", "\"int\""))), "4 2 6 0", Lakes.bytes(4, 2, 4, 6, 8, 0));
        rowsTold("[\"null\",\"int\"]", "[\"int\",\"null\"]", "0 8", Lakes.bytes(2, 8));
    }

    private static void matches() {
        CHECK.says("MATCHES: either is a union; the same one of the six; INT as LONG; BYTES, STRING; arrays or maps whose items match; "
                + "FIXED of the same name and size, ENUM, RECORD of the same name.");
        for (int w = 0; w < 6; w++) {
            for (int r = 0; r < 6; r++) {
                boolean alike = w == r || w == 2 && r == 3 || w >= 4 && r >= 4;
                String union = "[" + array(WORDS[r]) + "]";
                told(array(WORDS[w]), union, alike ? "0 0" : UNRESOLVED, 0);
                told(map(WORDS[w]), "[" + map(WORDS[r]) + "]", alike ? "0 0" : UNRESOLVED, 0);
            }
        }
        // Items that are a union match whatever is there, also if no datum can be told so.
        told(array("\"int\""), "[" + array("[\"string\"]") + "]", "0 0", 0);
        told(array("\"int\""), "[" + array("[\"string\"]") + "]", UNRESOLVED, 2, 2, 0);
        told(array("[\"int\"]"), "[" + array("\"string\"") + "]", "0 0", 0);
        told(array(array("\"int\"")), "[" + array(array("\"string\"")) + "]", UNRESOLVED, 0);
        told(array(array("\"int\"")), "[" + array(array("\"long\"")) + "]", "0 0", 0);
        told(array(map("\"int\"")), "[" + array(array("\"int\"")) + "]", UNRESOLVED, 0);
        told(array(FIXED), "[" + array(FIXED.replace("2", "3")) + "]", UNRESOLVED, 0);
        told(array(ENUM), "[" + array(ENUM.replace("\"a\",\"b\"", "\"c\"")) + "]", "0 0", 0);
        told(array(ENUM), "[" + array(ENUM.replace("E", "D")) + "]", UNRESOLVED, 0);
        told(array(record("")), "[" + array(record(field("x", "\"int\""))) + "]", "0 0", 0);
        told(array(record("")), "[" + array(record("").replace("R", "S")) + "]", UNRESOLVED, 0);
        // As deep as schemas go: the union, 14 arrays and what is in the last.
        String deep = Lakes.repeat("{\"type\":\"array\",\"items\":", 14, "") + "#" + Lakes.repeat("}", 14, "");
        RecordLake lake = new RecordLake();
        Lakes.register(lake, 0, deep.replace("#", "\"int\""));
        Lakes.register(lake, 1, "[" + deep.replace("#", "\"long\"") + "]");
        Lakes.register(lake, 2, "[" + deep.replace("#", "\"string\"") + "]");
        Lakes.load(lake, 0, 0, 0);
        CHECK.same("items of items that match", lake.copy(0, 1, 0), 1);
        CHECK.same("items of items that do not", lake.copy(0, 2, 0), RecordLake.UNRESOLVED);
        CHECK.yes("fits", lake.fits(0, 0, 1, 0));
        CHECK.no("fits", lake.fits(0, 0, 2, 0));
        // The branch that matches is not the first of its kind there could be: arrays stand but once in a union.
        told(array("\"int\""), "[\"int\"," + map("\"int\"") + "," + array("\"int\"") + "]", "4 0", 0);
    }

    private static void fitsUnions() {
        CHECK.says("w a union: all branches fit r.");
        FITS.yes("[\"int\"]", "\"long\"");
        FITS.yes("[\"int\",\"long\"]", "\"long\"");
        FITS.no("[\"int\",\"long\"]", "\"int\"");
        FITS.no("[\"int\",\"null\"]", "\"int\"");
        FITS.no("[\"null\",\"int\"]", "\"int\"");
        FITS.yes("[\"int\",\"null\"]", "[\"null\",\"int\",\"string\"]");
        FITS.no("[\"int\",\"null\",\"string\"]", "[\"null\",\"int\"]");
        CHECK.says("Else r a union: the first branch that matches w is there, and w fits it.");
        FITS.yes("\"int\"", "[\"int\"]");
        FITS.yes("\"int\"", "[\"string\",\"long\"]");
        FITS.no("\"int\"", "[\"string\"]");
        FITS.yes(ENUM, "[\"null\"," + ENUM + "]");
        FITS.no(ENUM, "[\"null\"," + ENUM.replace("\"a\",", "") + "]");
        FITS.no(array("\"int\""), "[" + array("[\"string\"]") + "]");
        FITS.yes(array("\"int\""), "[" + array("[\"string\",\"int\"]") + "]");
    }

    private static void fitsRest() {
        CHECK.says("Else the same of the six, INT as LONG, BYTES and STRING; arrays, maps whose items fit; FIXED of the same name and size");
        for (int w = 0; w < 6; w++) {
            for (int r = 0; r < 6; r++) {
                boolean alike = w == r || w == 2 && r == 3 || w >= 4 && r >= 4;
                FITS.due(alike, WORDS[w], WORDS[r]);
                FITS.due(alike, array(WORDS[w]), array(WORDS[r]));
                FITS.due(alike, map(WORDS[w]), map(WORDS[r]));
            }
        }
        FITS.yes(FIXED, FIXED);
        FITS.no(FIXED, FIXED.replace("F", "G"));
        FITS.no(FIXED, FIXED.replace("2", "3"));
        CHECK.says("ENUM of the same name, and r has a default, or all symbols of w");
        FITS.yes(ENUM, ENUM.replace("\"a\"", "\"c\",\"a\""));
        FITS.no(ENUM, ENUM.replace("\"a\",", ""));
        FITS.no(ENUM, ENUM.replace(",\"b\"", ""));
        FITS.yes(ENUM, ENUM.replace("\"a\",\"b\"]", "\"c\"],\"default\":\"c\""));
        FITS.no(ENUM, ENUM.replace("E", "D"));
        FITS.no(ENUM.replace("]}", "],\"default\":\"b\"}"), ENUM.replace("\"a\",", ""));
        CHECK.says("RECORD of the same name: each of r's fields is one of w's that fits it, or else has a default.");
        String a = field("a", "\"int\"");
        FITS.yes(record(a), record(""));
        FITS.no(record(""), record(a));
        FITS.yes(record(""), record(field("a", "\"int\"", "0")));
        FITS.yes(record(a), record(a.replace("int", "long")));
        FITS.no(record(a.replace("int", "long")), record(a));
        FITS.no(record(a), record(a).replace("R", "S"));
        FITS.no(record(a), record(a + "," + field("b", "\"int\"")));
        FITS.yes(record(a), record(field("b", "\"int\"", "0") + "," + a));
        FITS.no(record(a), record(field("b", "\"int\"", "0") + "," + field("a", "\"null\"")));
    }

    private static void askedAlready() {
        CHECK.says("(Two, each as it stands in its text, that are being asked for already count as fitting.)");
        String list = record(field("v", "\"int\"") + "," + field("n", "[\"null\",\"R\"]"));
        FITS.yes(list, list);
        FITS.yes(list, list.replace("\"int\"", "\"long\""));
        FITS.no(list.replace("\"int\"", "\"long\""), list);
        FITS.yes(record(field("n", "\"R\"")), record(field("n", "\"R\"")));
        // What does not fit stands behind the pair that is being asked for.
        FITS.no(record(field("n", "[\"null\",\"R\"]") + "," + field("v", "\"long\"")), record(field("n", "[\"null\",\"R\"]") + "," + field("v", "\"int\"")));
        // Two records of the same name at other places are other pairs.
        String inner = "{\"type\":\"record\",\"name\":\"S\",\"fields\":[" + field("r", "[\"null\",\"R\"]") + "," + field("x", "\"#\"") + "]}";
        FITS.yes(record(field("s", inner.replace("#", "int"))), record(field("s", inner.replace("#", "long"))));
        FITS.no(record(field("s", inner.replace("#", "long"))), record(field("s", inner.replace("#", "int"))));
    }

    /** The datum that a tail is told from comes behind so many bytes that have been told. */
    private static void behind(int bytes, String w, String r, int due, int... datum) {
        int more = bytes - 4002 - (bytes - 4002 > 64 ? 2 : 1);
        String s = field("s", "\"string\"");
        String writer = record(s + "," + field("t", w));
        String reader = record(s + "," + field("d", "\"string\"", "\"" + Lakes.repeat("d", more, "") + "\"") + "," + field("t", r));
        RecordLake lake = new RecordLake();
        Lakes.register(lake, 0, writer);
        Lakes.register(lake, 1, reader);
        byte[] row = Lakes.join(Lakes.varint(4000), Lakes.many(4000, 's'), Lakes.bytes(datum));
        CHECK.same("load", Lakes.load(lake, 0, 0, row), 1);
        // No file holds what is told: which of both copy answers tells what came first.
        CHECK.same("copy behind " + bytes + " bytes, " + w + " as " + r, lake.copy(0, 1, 0), due == RecordLake.UNRESOLVED ? due : RecordLake.FULL);
        if (Lakes.register(lake, 0, reader) == 1) {
            lake.read(0, 0, 0);
            CHECK.same("read behind " + bytes + " bytes, " + w + " as " + r, lake.read(0, 1, 0), due);
            CHECK.same("OUT", lake.size(1), Math.max(0, due));
        }
    }

    private static void whicheverFirst() {
        CHECK.says("UNRESOLVED, or FULL (a byte behind 4096), whichever comes first as it is told byte by byte, and OUT is empty");
        behind(4095, "\"boolean\"", "\"boolean\"", 4096, 1);
        behind(4096, "\"boolean\"", "\"boolean\"", RecordLake.FULL, 1);
        behind(4096, "\"null\"", "\"null\"", 4096);
        behind(4096, "\"boolean\"", "\"int\"", RecordLake.UNRESOLVED, 1);
        behind(4094, "\"int\"", "\"int\"", 4096, 128, 1);
        behind(4095, "\"int\"", "\"int\"", RecordLake.FULL, 128, 1);
        // A union's branch is told before what it holds: it is a byte of its own.
        behind(4095, "\"int\"", "[\"null\",\"int\"]", RecordLake.FULL, 0);
        behind(4094, "\"int\"", "[\"null\",\"int\"]", 4096, 0);
        behind(4096, "\"int\"", "[\"null\"]", RecordLake.UNRESOLVED, 0);
        behind(4095, ENUM, "[" + ENUM.replace("\"b\"", "\"c\"") + "]", RecordLake.UNRESOLVED, 2);
        behind(4096, ENUM, "[" + ENUM.replace("\"b\"", "\"c\"") + "]", RecordLake.FULL, 2);
        // An array's number of items comes before them.
        behind(4095, array("\"int\""), array("\"string\""), RecordLake.UNRESOLVED, 2, 0, 0);
        behind(4096, array("\"int\""), array("\"string\""), RecordLake.FULL, 2, 0, 0);
        behind(4095, array("\"int\""), array("\"string\""), 4096, 0);
        behind(4094, array("\"boolean\""), array("\"boolean\""), RecordLake.FULL, 2, 1, 0);
        behind(4093, array("\"boolean\""), array("\"boolean\""), 4096, 2, 1, 0);
        // A key comes before its datum.
        behind(4093, map("\"int\""), map("\"string\""), RecordLake.UNRESOLVED, 2, 2, 'k', 0, 0);
        behind(4094, map("\"int\""), map("\"string\""), RecordLake.FULL, 2, 2, 'k', 0, 0);
        // A symbol or a field of which there is neither has no byte.
        behind(4096, ENUM, ENUM.replace("\"b\"", "\"c\""), RecordLake.UNRESOLVED, 2);
        behind(4096, ENUM, ENUM, RecordLake.FULL, 2);
        behind(4095, ENUM, ENUM, 4096, 2);
        String inner = "{\"type\":\"record\",\"name\":\"S\",\"fields\":[#]}";
        behind(4096, inner.replace("#", ""), inner.replace("#", field("x", "\"int\"")), RecordLake.UNRESOLVED);
        behind(4096, inner.replace("#", ""), inner.replace("#", field("x", "\"int\"", "0")), RecordLake.FULL);
        behind(4095, inner.replace("#", ""), inner.replace("#", field("x", "\"int\"", "0")), 4096);
        behind(4095, inner.replace("#", ""), inner.replace("#", field("x", "\"int\"", "64")), RecordLake.FULL);
        behind(4096, inner.replace("#", ""), inner.replace("#", field("x", "\"null\"", "null")), 4096);
        behind(4096, "\"string\"", "\"string\"", RecordLake.FULL, 0);
        behind(4092, "\"string\"", "\"bytes\"", RecordLake.FULL, 8, 1, 1, 1, 1);
        behind(4091, "\"string\"", "\"bytes\"", 4096, 8, 1, 1, 1, 1);
        behind(4095, FIXED, FIXED, RecordLake.FULL, 1, 1);
        behind(4094, FIXED, FIXED, 4096, 1, 1);
    }
}
