/** A disk that is full of texts with as much in them as can be: all of it is kept, and read from the disk again. */
public final class Edges5FullDiskTest {
    private static final Check CHECK = new Check();
    private static final String WRITER = record("R", "{\"name\":\"z\",\"type\":\"boolean\"}");

    public static void main(String[] args) {
        CHECK.says("A file lies in blocks one behind the other");
        fill("symbols", record("R", many(20, Edges5FullDiskTest::symbols)));
        fill("short names", record("R", many(26, i -> "[\"null\",\"int\",\"long\"]")));
        fill("records without fields", record("R", many(32, i -> record("S" + i, ""))));
        fill("unions of names", unionsOfNames());
        CHECK.says("A default's bytes");
        fill("defaults of two bytes for each", defaults("[\"int\"]", "0"));
        fill("defaults of long numbers", defaults("\"long\"", "-9223372036854775808"));
        fill("defaults of strings", strings());
        CHECK.finish("Edges5FullDiskTest");
    }

    private interface Type {
        String of(int i);
    }

    private static String record(String name, String fields) {
        return "{\"type\":\"record\",\"name\":\"" + name + "\",\"fields\":[" + fields + "]}";
    }

    private static String many(int n, Type type) {
        StringBuilder all = new StringBuilder();
        for (int i = 0; i < n; i++) {
            all.append(i == 0 ? "" : ",").append("{\"name\":\"").append(letter(i)).append("\",\"type\":").append(type.of(i)).append('}');
        }
        return all.toString();
    }

    private static char letter(int i) {
        return "abcdefghijklmnopqrstuvwxyzABCDEFGHIJKLMNOPQRSTUVWXYZ_".charAt(i);
    }

    private static String symbols(int i) {
        StringBuilder all = new StringBuilder();
        for (int j = 0; j < 32; j++) {
            all.append(j == 0 ? "" : ",").append('"').append(letter(j)).append('"');
        }
        return "{\"type\":\"enum\",\"name\":\"E" + i + "\",\"symbols\":[" + all + "]}";
    }

    /** Names of one letter: a branch for each four bytes. */
    private static String unionsOfNames() {
        StringBuilder names = new StringBuilder();
        for (int i = 0; i < 16; i++) {
            names.append(i == 0 ? "" : ",").append('"').append(letter(i)).append('"');
        }
        StringBuilder all = new StringBuilder(many(16, i -> record("" + letter(i), "")));
        for (int i = 16; i < 21; i++) {
            all.append(",{\"name\":\"").append(letter(i)).append("\",\"type\":[").append(names).append("]}");
        }
        return record("R", all.toString());
    }

    private static String defaults(String items, String value) {
        int n = (4096 - 130) / (value.length() + 1);
        return record("R", "{\"name\":\"a\",\"type\":{\"type\":\"array\",\"items\":" + items + "},\"default\":[" + Lakes.repeat(value, n, ",") + "]}");
    }

    private static String strings() {
        return record("R", "{\"name\":\"a\",\"type\":\"string\",\"default\":\"" + Lakes.repeat("x", 3950, "") + "\"}");
    }

    /** Registers a text as often as the disk can hold it behind a version with a row, and two blocks are left. */
    private static void fill(String what, String text) {
        CHECK.yes(what + ": a text for a tape", text.length() <= 4096);
        boolean isDefault = text.contains("default");
        RecordLake lake = new RecordLake();
        for (int s = 0; s < 3 && isDefault; s++) {
            CHECK.same(what + ": register", Lakes.register(lake, s, WRITER), 0);
            CHECK.same(what + ": load", Lakes.load(lake, s, 0, 1), 1);
        }
        int before = lake.files();
        int blocks = (text.length() + 255) / 256;
        int texts = Math.min(38 - before, (124 - before) / blocks);
        for (int i = 0; i < texts; i++) {
            CHECK.same(what + ": register", Lakes.register(lake, i % 3, text), i / 3 + (isDefault ? 1 : 0));
        }
        // What is only looked at comes behind all that is kept.
        Lakes.tape(lake, text);
        CHECK.same(what + ": schema()", lake.schema(), 0);
        same(what, lake, text, isDefault);
        CHECK.same(what + ": one more", Lakes.register(lake, 3, "\"int\""), 0);
        lake.power(0);
        CHECK.same(what + ": power goes", Lakes.register(lake, 3, "\"int\""), RecordLake.LOST);
        CHECK.same(what + ": start()", lake.start(), before + texts + 1);
        same(what, lake, text, isDefault);
    }

    /** Each version is as that of an object that has no other. */
    private static void same(String what, RecordLake lake, String text, boolean isDefault) {
        RecordLake alone = new RecordLake();
        Lakes.register(alone, 0, isDefault ? WRITER : text);
        int first = Lakes.register(alone, 0, text);
        Lakes.load(alone, 0, 0, isDefault ? 1 : 9);
        int bytes = isDefault ? alone.read(0, 1, 0) : 0;
        String told = Lakes.out(alone);
        for (int s = 0; s < 3; s++) {
            for (int v = isDefault ? 1 : 0; v < lake.count(s, 0); v++) {
                CHECK.same(what + ": print of " + s + " " + v, lake.print(s, v), alone.print(0, first));
                CHECK.yes(what + ": it fits the latest", lake.fits(s, v, 0, lake.count(0, 0) - 1));
                if (isDefault) {
                    CHECK.same(what + ": read as " + v, lake.read(s, v, 0), bytes);
                    CHECK.same(what + ": OUT", Lakes.out(lake), told);
                }
            }
        }
    }
}
