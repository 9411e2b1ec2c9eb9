/** Promise 4, FAULT 1: the first byte of a text that cannot stand where it does. */
public final class P04TextFaultTest {
    private static final Check CHECK = new Check();
    private static final RecordLake LAKE = new RecordLake();

    public static void main(String[] args) {
        ends();
        bytes();
        strings();
        numbers();
        nesting();
        members();
        CHECK.finish("P04TextFaultTest");
    }

    /** A text whose first fault is FAULT 1 at a place. */
    private static void faulty(String text, int place) {
        Lakes.tape(LAKE, text);
        CHECK.same("schema() of " + text, LAKE.schema(), 1);
        CHECK.same("place() of " + text, LAKE.place(), place);
        CHECK.same("size(0) of " + text, LAKE.size(0), 0);
    }

    /** A text that has no FAULT 1: another one behind it. */
    private static void sound(String text, int fault) {
        Lakes.tape(LAKE, text);
        CHECK.same("schema() of " + text, LAKE.schema(), fault);
    }

    private static void ends() {
        faulty("", 0);
        faulty("  \t", 3);
        faulty("{", 1);
        faulty("{\"a\"", 4);
        faulty("{\"a\":", 5);
        faulty("{\"a\":1", 6);
        faulty("{\"a\":1,", 7);
        faulty("[", 1);
        faulty("[1", 2);
        faulty("[1,", 3);
        faulty("\"", 1);
        faulty("\"abc", 4);
        faulty("\"\\", 2);
        faulty("\"\\u00f", 6);
        faulty("-", 1);
        faulty("tru", 3);
        faulty("nul", 3);
        faulty("fals", 4);
    }

    private static void bytes() {
        faulty("x", 0);
        faulty(" }", 1);
        faulty("]", 0);
        faulty(",", 0);
        faulty("trux", 3);
        faulty("nuLl", 2);
        faulty("falsy", 4);
        faulty("True", 0);
        faulty("truex", 4);
        faulty("\"int\" \"int\"", 6);
        faulty("\"int\",", 5);
        faulty("[1 2]", 3);
        faulty("[1,]", 3);
        faulty("[,1]", 1);
        faulty("[1}", 2);
        faulty("{1:2}", 1);
        faulty("{\"a\" 1}", 5);
        faulty("{\"a\"::1}", 5);
        faulty("{\"a\":1,}", 7);
        faulty("{,}", 1);
        faulty("{\"a\":1]", 6);
        faulty("\"int\"\u000b", 5);
        faulty("\u00a0\"int\"", 0);
        faulty("\"int\"\u0000", 5);
        sound("\t\r\n \"int\"\t\r\n ", 0);
        sound(" { \"type\" : \"array\" , \"items\" : [ \"int\" , \"null\" ] } ", 0);
        sound("[true , false,null]", 2);
        sound("{ }", 7);
        sound("[ \n]", 5);
    }

    private static void strings() {
        faulty("\"a\u001fb\"", 2);
        faulty("\"a\u007fb\"", 2);
        faulty("\"a\u0080b\"", 2);
        faulty("\"a\nb\"", 2);
        faulty("\"\\x\"", 2);
        faulty("\"\\'\"", 2);
        faulty("\"\\U0041\"", 2);
        faulty("\"\\u00g0\"", 5);
        faulty("\"\\u004\"", 6);
        faulty("\"ab\\u0100\"", 3);
        faulty("\"ab\\uffff\"", 3);
        faulty("\"\\u0100", 1);
        faulty("\"\\u010x", 6);
        faulty("\"\\u0100\u0001", 1);
        faulty("{\"\\u0100\":1}", 2);
        sound("\"\\u00aA\\u00Ff\\u0009\"", 3);
        faulty("\"\\u00`0\"", 5);
        faulty("\"\\u00@0\"", 5);
        faulty("\"\\u00G0\"", 5);
        faulty("\"\\u00/0\"", 5);
        faulty("\"\\u00:0\"", 5);
        sound("\"\\u00ff\\u00FF\\u0000\\\"\\\\\\/\\b\\f\\n\\r\\t ~\"", 3);
        sound("\"\\u0069\\u006E\\u0074\"", 0);
        CHECK.same("an escaped word's plain form", Lakes.plain(LAKE), "\"int\"");
    }

    private static void numbers() {
        faulty("00", 1);
        faulty("-00", 2);
        faulty("01", 1);
        faulty("+1", 0);
        faulty("1.5", 1);
        faulty("1e3", 1);
        faulty("--1", 1);
        faulty("-x", 1);
        faulty("9223372036854775808", 0);
        faulty("-9223372036854775809", 0);
        faulty(" [1,9223372036854775808]", 4);
        faulty(" [1,9223372036854775808x", 4);
        faulty("[18446744073709551617", 1);
        faulty("[92233720368547758070]", 1);
        faulty("[-100000000000000000000000000000000000000000000]", 1);
        sound("9223372036854775807", 2);
        sound("-9223372036854775808", 2);
        sound("-0", 2);
        sound("0", 2);
        sound("1234567890", 2);
    }

    private static void nesting() {
        sound(Lakes.repeat("[", 24, "") + Lakes.repeat("]", 24, ""), 4);
        faulty(Lakes.repeat("[", 25, "") + Lakes.repeat("]", 25, ""), 24);
        faulty(Lakes.repeat(" [", 30, ""), 49);
        sound(Lakes.repeat("{\"a\":", 24, "") + "1" + Lakes.repeat("}", 24, ""), 7);
        faulty(Lakes.repeat("{\"a\":", 24, "") + "[]" + Lakes.repeat("}", 24, ""), 120);
        faulty(Lakes.repeat("{\"a\":", 24, "") + "{", 120);
        faulty(Lakes.repeat("[", 24, "") + "x", 24);
        // Those that have been closed do not count.
        sound("[" + Lakes.repeat("[[]]", 100, ",") + "]", 5);
    }

    private static void members() {
        faulty("{\"a\":1,\"a\":2}", 7);
        faulty("{\"a\":1,\"a\" x", 7);
        faulty("{\"a\":1,\"a", 9);
        faulty("{\"a\":1,\"a\u0001\":2}", 9);
        faulty("{\"ab\":1, \"\\u0061b\":2}", 9);
        faulty("{\"\":1,\"b\":2,\"\":3}", 12);
        faulty("{\"x\":{\"a\":1,\"a\":2}}", 12);
        sound("{\"a\":1,\"A\":2,\"aa\":{\"a\":1}}", 7);
        sound("[{\"a\":1},{\"a\":1}]", 7);
        // FAULT 1 comes before all others, wherever it is.
        faulty("[1,2,[]", 7);
        faulty("{\"type\":\"nothing\"}}", 18);
    }
}
