/** Part 1 of the document, TEXTS: each sentence that names an edge, on both of its sides. */
public final class Edges1TextsTest {
    private static final Check CHECK = new Check();
    private static final SchemaAsker ASK = new SchemaAsker(CHECK);
    /** Every kind of value, of escape and of place for a blank is in it; the second part is behind the value. */
    private static final String ALL = "\t{ \"type\" :\r\n\"record\", \"name\":\"R\\u0041\", \"n\" : [ -12 , 0, 907,true,false , null,{ } ,[ ],-0 ], "
            + "\"s\": \"\\\"\\\\\\/\\b\\f\\n\\r\\t ~!#[]\\u00Ff\", \"o\":{\"p\" :{\"\":[[ ]]}},\"fields\" : [ {\"name\":\"a\",\"type\":\"int\"} ] }";
    private static final String BEHIND = "\r\n\t ";

    public static void main(String[] args) {
        tape();
        blanks();
        values();
        stringBytes();
        escapes();
        hexDigits();
        numbers();
        firstByte();
        tooEarly();
        boundsOfNumbers();
        aboveByte();
        nesting();
        members();
        order();
        CHECK.finish("Edges1TextsTest");
    }

    private static void tape() {
        CHECK.says("THE TAPE has at most 4096 bytes");
        RecordLake lake = new RecordLake();
        Lakes.tape(lake, Lakes.repeat(" ", 4091, "") + "\"int\"");
        CHECK.same("a schema at the tape's end", lake.schema(), 0);
        CHECK.state("a byte more", () -> lake.feed(0, 0, 0, 0, 0));
        Lakes.tape(lake, Lakes.repeat(" ", 4096, ""));
        CHECK.same("blanks alone", lake.schema(), 1);
        CHECK.same("the length is the place", lake.place(), 4096);
        CHECK.says("PLACES in it are from 0 on.");
        ASK.fault("?", 1, 0);
        ASK.fault(Lakes.repeat(" ", 4095, "") + "?", 1, 4095);
    }

    private static void blanks() {
        CHECK.says("with blanks (9 10 13 32) around it and between all of its parts");
        String[] parts = {"{", "\"type\"", ":", "\"array\"", ",", "\"items\"", ":", "[", "\"int\"", ",", "\"null\"", "]", "}"};
        String plain = "{\"type\":\"array\",\"items\":[\"int\",\"null\"]}";
        for (int b = 0; b < 256; b++) {
            boolean isBlank = b == 9 || b == 10 || b == 13 || b == 32;
            for (int gap = 0; gap <= parts.length; gap++) {
                StringBuilder text = new StringBuilder();
                int place = 0;
                for (int i = 0; i <= parts.length; i++) {
                    if (i == gap) {
                        place = text.length();
                        text.append((char) b);
                    }
                    text.append(i < parts.length ? parts[i] : "");
                }
                if (isBlank) {
                    ASK.sound(text.toString(), plain);
                } else if (b == 0 || b == 8 || b == 11 || b == 12 || b == 14 || b == 31 || b == 33 || b == 127 || b == 160) {
                    ASK.fault(text.toString(), 1, place);
                }
            }
        }
        ASK.sound("\t\n\r \"int\"\t\n\r ");
        // Within a part there is none: in a string a blank stands for itself.
        ASK.fault("\" int\"", 3, 0);
        ASK.fault("t rue", 1, 1);
        ASK.fault("- 1", 1, 1);
        ASK.fault("1 2", 1, 2);
    }

    private static void values() {
        CHECK.says("an OBJECT { } of members, each a string, a colon, a value, parted by commas");
        ASK.fault("{}", 7, 0);
        ASK.sound("{\"type\":\"int\"}");
        ASK.sound("{\"type\":\"int\",\"a\":1}");
        ASK.fault("{\"type\":\"int\",}", 1, 14);
        ASK.fault("{,\"type\":\"int\"}", 1, 1);
        ASK.fault("{\"type\":\"int\" \"a\":1}", 1, 14);
        ASK.fault("{\"type\"\"int\"}", 1, 7);
        ASK.fault("{\"type\":}", 1, 8);
        ASK.fault("{\"type\"}", 1, 7);
        ASK.fault("{type:\"int\"}", 1, 1);
        ASK.fault("{\"type\":\"int\"]", 1, 13);
        CHECK.says("a LIST [ ] of values, parted by commas");
        ASK.fault("[]", 5, 0);
        ASK.sound("[\"int\"]");
        ASK.sound("[\"int\",\"null\"]");
        ASK.fault("[\"int\",]", 1, 7);
        ASK.fault("[,\"int\"]", 1, 1);
        ASK.fault("[\"int\",,\"null\"]", 1, 7);
        ASK.fault("[\"int\"\"null\"]", 1, 6);
        ASK.fault("[\"int\"}", 1, 6);
        ASK.fault("[\"a\":1]", 1, 4);
        CHECK.says("a STRING; a NUMBER; true false null.");
        for (String word : new String[] {"true", "false", "null"}) {
            ASK.fault(word, 2, 0);
            ASK.fault(word + word.charAt(0), 1, word.length());
            for (int i = 0; i < word.length(); i++) {
                ASK.fault(word.substring(0, i) + "x", 1, i);
                ASK.fault(word.substring(0, i) + word.substring(i).toUpperCase(), 1, i);
                ASK.fault(word.substring(0, i), 1, i);
            }
        }
    }

    private static void stringBytes() {
        CHECK.says("32 .. 126 but \" and \\ stand for themselves");
        for (int b = 0; b < 256; b++) {
            String text = "[1,\"" + (char) b + "\"]";
            if (b < 32 || b > 126) {
                ASK.fault(text, 1, 4);
            } else if (b != '"' && b != '\\') {
                ASK.fault(text, 2, 1);
                told("" + (char) b, b);
            }
        }
    }

    /** What a string tells, as the bytes of a field's default. */
    private static void told(String letters, int... due) {
        RecordLake lake = new RecordLake();
        Lakes.register(lake, 0, "{\"type\":\"record\",\"name\":\"R\",\"fields\":[{\"name\":\"a\",\"type\":\"boolean\"}]}");
        CHECK.same("load", Lakes.load(lake, 0, 0, 1), 1);
        CHECK.same("register " + letters, Lakes.register(lake, 0, "{\"type\":\"record\",\"name\":\"R\",\"fields\":["
                + "{\"name\":\"d\",\"type\":\"bytes\",\"default\":\"" + letters + "\"}]}"), 1);
        lake.read(0, 1, 0);
        CHECK.same("the bytes of " + letters, Lakes.out(lake), Lakes.numbers(Lakes.join(Lakes.varint(due.length), Lakes.bytes(due))));
    }

    private static void escapes() {
        CHECK.says("\\\" \\\\ \\/ \\b \\f \\n \\r \\t for 34 92 47 8 12 10 13 9");
        String letters = "\"\\/bfnrt";
        int[] due = {34, 92, 47, 8, 12, 10, 13, 9};
        for (int b = 0; b < 256; b++) {
            int which = letters.indexOf(b);
            if (which >= 0) {
                told("\\" + (char) b, due[which]);
            } else if (b != 'u') {
                ASK.fault("\"\\" + (char) b + "\"", 1, 2);
            }
        }
    }

    private static void hexDigits() {
        CHECK.says("\\u and four of 0-9 a-f A-F for that number");
        for (int b = 0; b < 256; b++) {
            boolean isDigit = Character.digit(b, 16) >= 0 && b < 128;
            for (int i = 2; i < 4; i++) {
                String four = "0000".substring(0, i) + (char) b + "0000".substring(i + 1);
                if (isDigit) {
                    told("\\u" + four, Integer.parseInt(four, 16));
                } else {
                    ASK.fault("\"\\u" + four + "\"", 1, 3 + i);
                }
            }
        }
        told("\\u00001", 0, '1');
        ASK.fault("\"\\u000\"", 1, 6);
        ASK.fault("\"\\u\"", 1, 3);
        CHECK.says("for that number, 255 at most");
        told("\\u00ff", 255);
        told("\\u00FF", 255);
        for (String above : new String[] {"0100", "0fff", "1000", "FFFF"}) {
            ASK.fault("\"a\\u" + above + "\"", 1, 2);
        }
    }

    private static void numbers() {
        CHECK.says("A NUMBER: perhaps -, then 0, or digits the first of which is not 0");
        for (String number : new String[] {"0", "-0", "1", "-1", "9", "10", "-10", "100"}) {
            ASK.fault(" " + number + " ", 2, 1);
        }
        ASK.fault("00", 1, 1);
        ASK.fault("-00", 1, 2);
        ASK.fault("01", 1, 1);
        ASK.fault("-01", 1, 2);
        ASK.fault("+1", 1, 0);
        ASK.fault("-", 1, 1);
        ASK.fault("--1", 1, 1);
        ASK.fault("-a", 1, 1);
        ASK.fault("1.0", 1, 1);
        ASK.fault("1e1", 1, 1);
        ASK.fault(".1", 1, 0);
        ASK.fault("1/", 1, 1);
        ASK.fault("1:", 1, 1);
        CHECK.says("-2^63 .. 2^63 - 1");
        String type = "{\"type\":\"record\",\"name\":\"R\",\"fields\":[{\"name\":\"a\",\"type\":\"long\",\"default\":#}]}";
        ASK.sound(type.replace("#", "9223372036854775807"));
        ASK.sound(type.replace("#", "-9223372036854775808"));
        ASK.marked(type.replace("#", "~9223372036854775808"), 1);
        ASK.marked(type.replace("#", "~-9223372036854775809"), 1);
    }

    private static void firstByte() {
        CHECK.says("FAULT 1: the first byte that cannot stand where it does");
        ASK.sound(ALL + BEHIND);
        String text = ALL + BEHIND;
        for (int i = 0; i < text.length(); i++) {
            for (int b : new int[] {0, 31, 127, 255}) {
                ASK.fault(text.substring(0, i) + (char) b + text.substring(i + 1), 1, i);
            }
        }
        for (String more : new String[] {"\"", "{", "[", "1", "t", "}", "]", ",", ":", "/"}) {
            ASK.fault(text + more, 1, text.length());
            ASK.fault("\"int\"" + more, 1, 5);
        }
    }

    private static void tooEarly() {
        CHECK.says("(the length, if the tape ends too early)");
        for (int i = 0; i < ALL.length(); i++) {
            ASK.fault(ALL.substring(0, i), 1, i);
        }
        for (int i = 0; i <= BEHIND.length(); i++) {
            ASK.sound(ALL + BEHIND.substring(0, i));
        }
    }

    private static void boundsOfNumbers() {
        CHECK.says("a number out of its bounds, at its first byte");
        ASK.fault("[9223372036854775807,-9223372036854775808]", 2, 1);
        ASK.fault("[1, 9223372036854775808]", 1, 4);
        ASK.fault("[1, -9223372036854775809]", 1, 4);
        ASK.fault("[1, 9223372036854775810]", 1, 4);
        ASK.fault("[1, 10000000000000000000]", 1, 4);
        // Those that come round to small numbers in 64 bits.
        ASK.fault("[1, 18446744073709551616]", 1, 4);
        ASK.fault("[1, -18446744073709551617]", 1, 4);
        ASK.fault("[1, 184467440737095516160]", 1, 4);
        ASK.fault("[1, " + Lakes.repeat("1", 4000, "") + "]", 1, 4);
    }

    private static void aboveByte() {
        CHECK.says("\\u above 255, at its \\");
        ASK.fault("{\"a\":\"bc\\u00ff\"}", 7, 0);
        ASK.fault("{\"a\":\"bc\\u0100\"}", 1, 8);
        ASK.fault("{\"a\\u0100\":1}", 1, 3);
        ASK.fault("\"\\\\\\u0100\"", 1, 3);
    }

    private static void nesting() {
        CHECK.says("a 25th { or [ within one another");
        String[] open = {"[", "{\"a\":"};
        String[] close = {"]", "}"};
        for (int mix = 0; mix < 4; mix++) {
            StringBuilder before = new StringBuilder();
            StringBuilder behind = new StringBuilder();
            for (int i = 0; i < 24; i++) {
                int which = mix < 2 ? mix : (i + mix) % 2;
                before.append(open[which]);
                behind.insert(0, close[which]);
            }
            int fault = before.charAt(0) == '{' ? 7 : before.charAt(1) == '[' ? 4 : 7;
            int place = before.charAt(0) == '{' ? 0 : 1;
            ASK.fault(before + "1" + behind, fault, place);
            ASK.fault(before + "[]" + behind, 1, before.length());
            ASK.fault(before + "{}" + behind, 1, before.length());
            ASK.fault(before + " [", 1, before.length() + 1);
            // What comes behind closed ones lies in no more.
            String beside = before.substring(0, before.length() - open[mix < 2 ? mix : (23 + mix) % 2].length());
            ASK.fault(beside + "[]" + behind.substring(1), fault, place);
        }
        ASK.fault("[" + Lakes.repeat("[[]]", 40, ",") + "]", 5, 0);
    }

    private static void members() {
        CHECK.says("a member's string that its object has already, at its \"");
        ASK.sound("{\"type\":\"int\",\"a\":1,\"b\":1}");
        ASK.fault("{\"type\":\"int\",\"a\":1, \"a\":1}", 1, 21);
        ASK.fault("{\"type\":\"int\",\"type\":\"int\"}", 1, 14);
        ASK.fault("{\"\":1,\"\":1}", 1, 6);
        ASK.fault("{\"a\":1,\"b\":{\"c\":1,\"c\":1}}", 1, 18);
        ASK.sound("{\"type\":\"int\",\"o\":{\"type\":1,\"o\":2}}");
        ASK.sound("{\"type\":\"int\",\"Type\":1,\"typ\":2,\"types\":3}");
        CHECK.says("Strings are the same by the bytes that they tell.");
        ASK.fault("{\"a\":1,\"\\u0061\":1}", 1, 7);
        ASK.fault("{\"\\/\":1,\"/\":1}", 1, 8);
        ASK.fault("{\"\\n\":1,\"\\u000a\":1,\"\\u000A\":1}", 1, 8);
        ASK.sound("{\"\\u0074ype\":\"\\u0069nt\",\"\\\\n\":1,\"\\n\":2,\"n\":3}", "\"int\"");
    }

    private static void order() {
        CHECK.says("a number when all its digits are there");
        ASK.fault("[9223372036854775808", 1, 1);
        ASK.fault("[9223372036854775808?", 1, 1);
        ASK.fault("[922337203685477580?", 1, 19);
        ASK.fault("[?9223372036854775808", 1, 1);
        CHECK.says("\\u when its four are");
        ASK.fault("\"\\uffff", 1, 1);
        ASK.fault("\"\\uffff\u0001", 1, 1);
        ASK.fault("\"\\ufff", 1, 6);
        ASK.fault("\"\\ufffg", 1, 6);
        ASK.fault("\"\u0001\\uffff", 1, 1);
        CHECK.says("a member's string when it has ended (what cannot stand in it comes before)");
        ASK.fault("{\"a\":1,\"a\"", 1, 7);
        ASK.fault("{\"a\":1,\"a\"?", 1, 7);
        ASK.fault("{\"a\":1,\"a", 1, 9);
        ASK.fault("{\"a\":1,\"a\u007f\"", 1, 9);
        ASK.fault("{\"a\":1,\"a\\u0100\"", 1, 9);
        ASK.fault("{\"a\":1,\"ab\":1?", 1, 13);
    }
}
