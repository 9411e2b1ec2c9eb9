/** Part 6 of the document, CALLS, and the promises' own edges that the other parts do not name. */
public final class Edges6CallsTest {
    private static final Check CHECK = new Check();
    private static final int LEAST = Integer.MIN_VALUE;
    private static final int MOST = Integer.MAX_VALUE;

    /** A call that wants a subject first. */
    private interface OfSubject {
        void call(RecordLake lake, int subject);
    }

    public static void main(String[] args) {
        subjects();
        versions();
        rows();
        bytes();
        files();
        throwsChangeNothing();
        namedFirst();
        whileDown();
        argumentsWhileDown();
        listLength();
        newObject();
        feeds();
        ends();
        schemas();
        places();
        counts();
        outStays();
        calls512();
        CHECK.finish("Edges6CallsTest");
    }

    /** Two versions and three rows in subjects 0 and 3, none in 1 and 2. */
    private static RecordLake lake() {
        RecordLake lake = new RecordLake();
        for (int s = 0; s < 4; s += 3) {
            Lakes.register(lake, s, "\"int\"");
            Lakes.register(lake, s, "\"long\"");
            Lakes.load(lake, s, 0, 2, 4);
            Lakes.load(lake, s, 1, 6);
        }
        return lake;
    }

    private static RecordLake down() {
        RecordLake lake = lake();
        lake.power(0);
        CHECK.same("LOST", lake.clear(0), RecordLake.LOST);
        return lake;
    }

    private static void ofSubject(String what, OfSubject call) {
        for (int s : new int[] {LEAST, -1, 4, 5, 256, MOST}) {
            CHECK.index(what + " of " + s, () -> call.call(lake(), s));
            CHECK.index(what + " of " + s + " while DOWN", () -> call.call(down(), s));
        }
        for (int s = 0; s < 4; s += 3) {
            int subject = s;
            CHECK.same(what + " of " + s, Check.thrownBy(() -> call.call(lake(), subject)), "nothing");
            CHECK.same(what + " of " + s + " while DOWN", Check.thrownBy(() -> call.call(down(), subject)), "nothing");
        }
    }

    private static void subjects() {
        CHECK.says("IndexOutOfBoundsException: there is no such subject, version, row, byte, file.");
        ofSubject("register", (lake, s) -> Lakes.register(lake, s, "\"long\""));
        ofSubject("look", (lake, s) -> lake.look(s, 0));
        ofSubject("load", (lake, s) -> lake.load(s, 0));
        ofSubject("read", (lake, s) -> lake.read(s, 0, 0));
        ofSubject("copy", (lake, s) -> lake.copy(s, 0, 0));
        ofSubject("copy to", (lake, s) -> lake.copy(0, s, 0));
        ofSubject("compact", RecordLake::compact);
        ofSubject("clear", RecordLake::clear);
        ofSubject("fits", (lake, s) -> lake.fits(s, 0, 0, 0));
        ofSubject("fits as other", (lake, s) -> lake.fits(0, 0, s, 0));
        ofSubject("count", (lake, s) -> lake.count(s, 0));
        ofSubject("print", (lake, s) -> lake.print(s, 0));
    }

    /** A call that wants a version of subject 0: there are two, and while DOWN it is not looked for. */
    private static void ofVersion(String what, OfSubject call) {
        for (int v : new int[] {LEAST, -1, 2, 16, MOST}) {
            CHECK.index(what + " of version " + v, () -> call.call(lake(), v));
            CHECK.same(what + " of version " + v + " while DOWN", Check.thrownBy(() -> call.call(down(), v)), "nothing");
        }
        for (int v = 0; v < 2; v++) {
            int version = v;
            CHECK.same(what + " of version " + v, Check.thrownBy(() -> call.call(lake(), version)), "nothing");
        }
    }

    private static void versions() {
        CHECK.says("there is no such subject, version");
        ofVersion("look", (lake, v) -> lake.look(0, v));
        ofVersion("load", (lake, v) -> lake.load(0, v));
        ofVersion("read", (lake, v) -> lake.read(0, v, 0));
        ofVersion("copy", (lake, v) -> lake.copy(3, 0, v));
        ofVersion("copy of no rows", (lake, v) -> lake.copy(1, 0, v));
        ofVersion("fits", (lake, v) -> lake.fits(0, v, 3, 0));
        ofVersion("fits as other", (lake, v) -> lake.fits(3, 0, 0, v));
        ofVersion("print", (lake, v) -> lake.print(0, v));
        RecordLake lake = lake();
        CHECK.index("look where there is none", () -> lake.look(1, 0));
        CHECK.index("load where there is none", () -> lake.load(1, 0));
        CHECK.index("read where there is none", () -> lake.read(1, 0, 0));
        CHECK.index("copy where there is none", () -> lake.copy(0, 1, 0));
        CHECK.index("fits where there is none", () -> lake.fits(1, 0, 0, 0));
        CHECK.index("fits where there is none", () -> lake.fits(0, 0, 1, 0));
        CHECK.index("print where there is none", () -> lake.print(1, 0));
    }

    private static void rows() {
        CHECK.says("version, row, byte, file");
        RecordLake lake = lake();
        for (int i = 0; i < 3; i++) {
            CHECK.same("row " + i, lake.read(0, 1, i), 1);
            CHECK.same("its byte", lake.letter(0, 1), 2 + 2 * i);
        }
        for (int i : new int[] {LEAST, -1, 3, 4, MOST}) {
            CHECK.index("row " + i, () -> lake.read(0, 1, i));
        }
        lake.clear(0);
        CHECK.index("row 0 of none", () -> lake.read(0, 1, 0));
        RecordLake down = down();
        CHECK.same("no row is looked for while DOWN", down.read(0, 1, -1), RecordLake.DOWN);
        CHECK.same("nor one too many", down.read(0, 1, 99), RecordLake.DOWN);
    }

    private static void bytes() {
        CHECK.says("Byte i of the plain form (what = 0), or of OUT (1).");
        RecordLake lake = lake();
        lake.read(0, 0, 0);
        // The plain form is "long", OUT is 2.
        int[] sizes = {6, 1};
        for (int what = 0; what < 2; what++) {
            int of = what;
            CHECK.same("size(" + what + ")", lake.size(what), sizes[what]);
            for (int i : new int[] {LEAST, -1, sizes[what], 4095, 4096, MOST}) {
                CHECK.index("letter(" + i + ", " + what + ")", () -> lake.letter(i, of));
            }
        }
        CHECK.same("letter(0, 0)", lake.letter(0, 0), '"');
        CHECK.same("letter(5, 0)", lake.letter(5, 0), '"');
        CHECK.same("letter(0, 1)", lake.letter(0, 1), 2);
        RecordLake none = new RecordLake();
        CHECK.index("letter(0, 0) of no bytes", () -> none.letter(0, 0));
        CHECK.index("letter(0, 1) of no bytes", () -> none.letter(0, 1));
        CHECK.says("IllegalArgumentException when what is none of these (whatever i is).");
        for (int what : new int[] {LEAST, -1, 2, MOST}) {
            for (int i : new int[] {LEAST, -1, 0, 1, 6, MOST}) {
                CHECK.argument("letter(" + i + ", " + what + ")", () -> lake.letter(i, what));
            }
        }
        CHECK.says("How many bytes the plain form has (what = 0), OUT (1). IllegalArgumentException when what is none of these.");
        for (int what : new int[] {LEAST, -1, 2, MOST}) {
            CHECK.argument("size(" + what + ")", () -> lake.size(what));
        }
        // Bytes are 0 .. 255.
        RecordLake high = new RecordLake();
        Lakes.register(high, 0, "\"bytes\"");
        Lakes.load(high, 0, 0, 6, 0, 128, 255);
        high.read(0, 0, 0);
        CHECK.same("OUT", Lakes.out(high), "6 0 128 255");
    }

    private static void files() {
        CHECK.says("what = 0 subject, 1 version, 2 its first block, 3 how many bytes it wants, 4 how many rows (NONE for a version's).");
        RecordLake lake = lake();
        int[][] due = {{0, 0, 2, 5, -1}, {0, 1, 3, 6, -1}, {0, 0, 4, 23, 2}, {0, 1, 5, 22, 1}, {3, 0, 6, 5, -1}, {3, 1, 7, 6, -1},
            {3, 0, 8, 23, 2}, {3, 1, 9, 22, 1}};
        CHECK.same("files()", lake.files(), due.length);
        for (int k = 0; k < due.length; k++) {
            for (int what = 0; what < 5; what++) {
                CHECK.same("file(" + k + ", " + what + ")", lake.file(k, what), due[k][what]);
            }
        }
        for (int k : new int[] {LEAST, -1, 8, 40, MOST}) {
            CHECK.index("file(" + k + ", 0)", () -> lake.file(k, 0));
        }
        for (int what : new int[] {LEAST, -1, 5, MOST}) {
            CHECK.argument("file(0, " + what + ")", () -> lake.file(0, what));
        }
        CHECK.says("in the order in which they came; one that COMPACT made is where the first of both was");
        lake.compact(3);
        CHECK.same("int is not long", lake.files(), 8);
        Lakes.load(lake, 3, 1, 8);
        CHECK.same("compact", lake.compact(3), 1);
        CHECK.same("where the first was", lake.file(7, 4), 2);
        CHECK.same("files()", lake.files(), 8);
    }

    /** Each call that throws, as often as it can. */
    private static void throwing(RecordLake lake, boolean isDown) {
        Runnable[] all = {() -> lake.register(4), () -> lake.look(-1, 0), () -> lake.load(4, 0), () -> lake.read(4, 0, 0),
            () -> lake.copy(4, 0, 0), () -> lake.copy(0, 4, 0), () -> lake.compact(4), () -> lake.clear(-1), () -> lake.fits(4, 0, 0, 0),
            () -> lake.fits(0, 0, 4, 0), () -> lake.count(4, 0), () -> lake.count(0, 3), () -> lake.print(4, 0), () -> lake.letter(99, 0),
            () -> lake.letter(99, 1), () -> lake.letter(0, 2), () -> lake.size(2), () -> lake.file(0, 5), () -> lake.power(1001),
            () -> lake.power(-2), () -> lake.end(-1), () -> lake.end(4097)};
        for (Runnable call : all) {
            CHECK.no("nothing is thrown", Check.thrownBy(call).equals("nothing"));
        }
        if (!isDown) {
            Runnable[] more = {() -> lake.look(0, 2), () -> lake.load(0, 2), () -> lake.read(0, 2, 0), () -> lake.read(0, 0, 3),
                () -> lake.copy(0, 0, 2), () -> lake.fits(0, 2, 0, 0), () -> lake.fits(0, 0, 0, 2), () -> lake.print(0, 2),
                () -> lake.file(8, 0), lake::start};
            for (Runnable call : more) {
                CHECK.no("nothing is thrown", Check.thrownBy(call).equals("nothing"));
            }
        }
    }

    private static void throwsChangeNothing() {
        CHECK.says("A call that throws changes nothing");
        for (int isDown = 0; isDown < 2; isDown++) {
            RecordLake one = lake();
            RecordLake other = lake();
            for (RecordLake lake : new RecordLake[] {one, other}) {
                lake.read(0, 0, 1);
                Lakes.tape(lake, Lakes.bytes(2, 4, 128));
                lake.look(0, 0);
                lake.end(2);
                lake.power(isDown == 1 ? 0 : 3);
                if (isDown == 1) {
                    lake.compact(3);
                    lake.clear(3);
                    lake.power(3);
                }
            }
            throwing(one, isDown == 1);
            for (RecordLake lake : new RecordLake[] {one, other}) {
                CHECK.same("place()", lake.place(), 3);
                CHECK.same("OUT", Lakes.out(lake), "4");
                CHECK.same("the plain form", Lakes.plain(lake), "\"long\"");
                CHECK.argument("the tape", () -> lake.end(3));
                CHECK.same("the tape", Check.thrownBy(() -> lake.end(2)), "nothing");
                CHECK.same("DOWN or not", lake.files(), isDown == 1 ? RecordLake.DOWN : 8);
                if (isDown == 1) {
                    lake.start();
                }
                // Two blocks of three, then the list's.
                CHECK.same("the tape's rows", lake.load(0, 0), 2);
                CHECK.same("power", lake.copy(0, 0, 1), RecordLake.LOST);
                CHECK.same("start()", lake.start(), 9);
            }
            CHECK.same("all of it", Snapshot.of(one), Snapshot.of(other));
        }
        // A feed that throws brings nothing.
        RecordLake lake = new RecordLake();
        Lakes.tape(lake, Lakes.many(4090, ' '));
        CHECK.state("feed", () -> lake.feed(0, 0, 0, 0, 0));
        CHECK.argument("the tape has not grown", () -> lake.end(4091));
        CHECK.same("nor become less", Check.thrownBy(() -> lake.end(4090)), "nothing");
        CHECK.same("its bytes", lake.schema(), 1);
        CHECK.same("are blanks to the end", lake.place(), 4090);
    }

    private static void namedFirst() {
        CHECK.says("of several exceptions the one named first is thrown.");
        RecordLake lake = lake();
        CHECK.index("count(4, 3)", () -> lake.count(4, 3));
        CHECK.index("count(-1, -1)", () -> lake.count(-1, -1));
        CHECK.argument("count(0, 3)", () -> lake.count(0, 3));
        CHECK.index("file(8, 5)", () -> lake.file(8, 5));
        CHECK.index("file(-1, -1)", () -> lake.file(-1, -1));
        CHECK.argument("file(7, 5)", () -> lake.file(7, 5));
        RecordLake none = new RecordLake();
        CHECK.index("file(0, 5) of none", () -> none.file(0, 5));
        CHECK.argument("letter(-1, 2): whatever i is", () -> lake.letter(-1, 2));
        RecordLake down = down();
        CHECK.index("count(4, 3) while DOWN", () -> down.count(4, 3));
    }

    private static void whileDown() {
        CHECK.says("While all is DOWN only subjects are looked for");
        RecordLake lake = down();
        for (int v : new int[] {LEAST, -1, 0, 1, 2, MOST}) {
            for (int s = 0; s < 4; s++) {
                CHECK.same("look", lake.look(s, v), RecordLake.DOWN);
                CHECK.same("load", lake.load(s, v), RecordLake.DOWN);
                CHECK.same("read", lake.read(s, v, v), RecordLake.DOWN);
                CHECK.same("copy", lake.copy(s, 3 - s, v), RecordLake.DOWN);
                CHECK.no("fits", lake.fits(s, v, 3 - s, v));
                CHECK.same("print", lake.print(s, v), 0);
                CHECK.same("file", lake.file(v, s), RecordLake.DOWN);
            }
        }
        CHECK.says("and what can answer DOWN does, before all else that it could answer.");
        lake.end(0);
        CHECK.same("register of an empty tape", lake.register(0), RecordLake.DOWN);
        CHECK.same("look at an empty tape", lake.look(0, 0), RecordLake.DOWN);
        CHECK.same("load of an empty tape", lake.load(0, 0), RecordLake.DOWN);
        Lakes.tape(lake, "?");
        CHECK.same("register of a fault", lake.register(0), RecordLake.DOWN);
        CHECK.same("look at a fault", lake.look(0, 0), RecordLake.DOWN);
        CHECK.same("copy of no rows", lake.copy(1, 0, 0), RecordLake.DOWN);
        CHECK.same("compact where there are no two", lake.compact(1), RecordLake.DOWN);
        CHECK.same("clear where there are none", lake.clear(1), RecordLake.DOWN);
        for (int what = 0; what < 3; what++) {
            CHECK.same("count", lake.count(1, what), RecordLake.DOWN);
        }
        CHECK.same("files()", lake.files(), RecordLake.DOWN);
        CHECK.says("false while DOWN");
        CHECK.no("a version fits itself", lake.fits(0, 0, 0, 0));
        CHECK.says("0 while DOWN");
        CHECK.same("print", lake.print(0, 0), 0);
        lake.start();
        CHECK.yes("it fits again", lake.fits(0, 0, 0, 0));
        CHECK.no("print again", lake.print(0, 0) == 0);
    }

    private static void argumentsWhileDown() {
        CHECK.says("(what a call names as IllegalArgumentException or IllegalStateException is thrown nevertheless)");
        RecordLake lake = down();
        CHECK.argument("count(0, 3)", () -> lake.count(0, 3));
        CHECK.argument("count(0, -1)", () -> lake.count(0, -1));
        CHECK.argument("file(0, 5)", () -> lake.file(0, 5));
        CHECK.argument("file(99, -1)", () -> lake.file(99, -1));
        CHECK.argument("letter(0, 2)", () -> lake.letter(0, 2));
        CHECK.argument("size(2)", () -> lake.size(2));
        CHECK.argument("power(1001)", () -> lake.power(1001));
        CHECK.argument("end(-1)", () -> lake.end(-1));
        CHECK.argument("end(1) of nothing", () -> {
            lake.end(0);
            lake.end(1);
        });
        Lakes.tape(lake, Lakes.many(4077, ' '));
        CHECK.state("feed", () -> lake.feed(0, 0, 0, 0, 0));
        lake.start();
        CHECK.state("start", lake::start);
    }

    private static void listLength() {
        CHECK.says("How many files the list has; DOWN.");
        RecordLake lake = new RecordLake();
        CHECK.same("none", lake.files(), 0);
        Lakes.register(lake, 0, "\"int\"");
        for (int n = 1; n <= 40; n++) {
            CHECK.same("files()", lake.files(), n);
            Lakes.load(lake, 0, 0, 2);
        }
        CHECK.same("40 at most", lake.files(), 40);
        lake.power(0);
        lake.clear(0);
        CHECK.same("DOWN", lake.files(), RecordLake.DOWN);
        lake.start();
        CHECK.same("40 again", lake.files(), 40);
        CHECK.same("clear", lake.clear(0), 39);
        CHECK.same("one", lake.files(), 1);
    }

    private static void newObject() {
        CHECK.says("An empty tape, an empty disk, no subject has a version.");
        RecordLake lake = new RecordLake();
        CHECK.same("the first feed", lake.feed(0, 0, 0, 0, 0), 20);
        CHECK.same("files()", lake.files(), 0);
        for (int s = 0; s < 4; s++) {
            for (int what = 0; what < 3; what++) {
                CHECK.same("count(" + s + ", " + what + ")", lake.count(s, what), 0);
            }
        }
        CHECK.same("the first file lies", Lakes.register(lake, 0, "\"int\""), 0);
        CHECK.same("in the first block behind the lists", lake.file(0, 2), 2);
    }

    private static void feeds() {
        CHECK.says("Twenty bytes come behind the tape, each number's highest one first: how many it has.");
        RecordLake lake = new RecordLake();
        Lakes.register(lake, 0, "{\"type\":\"fixed\",\"name\":\"F\",\"size\":20}");
        CHECK.same("feed", lake.feed(LEAST, MOST, -1, 0, 0x01020304), 20);
        lake.load(0, 0);
        lake.read(0, 0, 0);
        CHECK.same("OUT", Lakes.out(lake), "128 0 0 0 127 255 255 255 255 255 255 255 0 0 0 0 1 2 3 4");
        CHECK.says("IllegalStateException when there would be more than 4096.");
        for (int n = 4070; n <= 4096; n++) {
            RecordLake full = new RecordLake();
            Lakes.tape(full, Lakes.many(n, 1));
            if (n <= 4076) {
                CHECK.same("feed behind " + n, full.feed(0, 0, 0, 0, 0), n + 20);
            } else {
                CHECK.state("feed behind " + n, () -> full.feed(0, 0, 0, 0, 0));
            }
        }
    }

    private static void ends() {
        CHECK.says("IllegalArgumentException when n is below 0, or more than it has.");
        RecordLake lake = new RecordLake();
        for (int n : new int[] {LEAST, -1, 1, MOST}) {
            CHECK.argument("end(" + n + ") of nothing", () -> lake.end(n));
        }
        lake.end(0);
        Lakes.tape(lake, Lakes.many(20, 1));
        CHECK.argument("end(21)", () -> lake.end(21));
        CHECK.same("end(20)", Check.thrownBy(() -> lake.end(20)), "nothing");
        CHECK.same("end(19)", Check.thrownBy(() -> lake.end(19)), "nothing");
        CHECK.argument("end(20) now", () -> lake.end(20));
        CHECK.says("The tape is cut behind its first n bytes (also while DOWN, as feed and schema go on then).");
        RecordLake down = down();
        down.end(0);
        CHECK.same("feed while DOWN", down.feed(0x22696e74, 0x22202020, 0x20202020, 0x20202020, 0x2020203f), 20);
        CHECK.same("schema() while DOWN", down.schema(), 1);
        CHECK.same("place() while DOWN", down.place(), 19);
        down.end(19);
        CHECK.same("schema() of what is left", down.schema(), 0);
        CHECK.same("its plain form", Lakes.plain(down), "\"int\"");
        down.start();
        CHECK.same("the tape is there behind start()", down.register(1), 0);
    }

    private static void schemas() {
        CHECK.says("The tape (which stays) is looked at as a schema's text: 0, or its FAULT, 1 .. 14.");
        String[] texts = {"\"int\"", "?", "1", "\"foo\"", "[[]]", "[]", "[\"int\",\"int\"]", "{}", "{\"type\":\"array\"}",
            "{\"type\":\"fixed\",\"name\":\"1\"}", "{\"type\":\"fixed\",\"name\":\"F\",\"size\":65}", "{\"type\":\"enum\",\"name\":\"E\",\"symbols\":[]}",
            "{\"type\":\"enum\",\"name\":\"E\",\"symbols\":[\"a\"],\"default\":1}",
            "{\"type\":\"record\",\"name\":\"R\",\"fields\":[" + Lakes.repeat("{\"name\":\"f#\",\"type\":[\"int\",\"long\",\"null\",\"bytes\"]}", 26, ",") + "]}",
            Lakes.repeat("{\"type\":\"array\",\"items\":", 16, "") + "1" + Lakes.repeat("}", 16, "")};
        RecordLake lake = new RecordLake();
        for (int i = 0; i < texts.length; i++) {
            Lakes.tape(lake, texts[i]);
            CHECK.same("schema() of " + i, lake.schema(), i);
            CHECK.same("once more", lake.schema(), i);
            int length = texts[i].length();
            CHECK.same("the tape", Check.thrownBy(() -> lake.end(length)), "nothing");
            CHECK.says("The plain form becomes that of it (of no bytes with a fault).");
            CHECK.same("size(0)", lake.size(0), i == 0 ? 5 : 0);
        }
        CHECK.same("no version", lake.count(0, 0), 0);
        refusedTexts();
        registersPlainForm();
    }

    private static void registersPlainForm() {
        CHECK.says("The plain form as by schema(), but for DOWN.");
        RecordLake lake = new RecordLake();
        for (int v = 0; v < 16; v++) {
            Lakes.register(lake, 0, "\"int\"");
        }
        String[] texts = {" {\"type\":\"null\"}", " \"long\"", "[ \"null\" ]", "\"foo\"", "[]"};
        int[] due = {RecordLake.UNFIT, RecordLake.FULL, 0, -3, -5};
        String[] forms = {"\"null\"", "\"long\"", "[\"null\"]", "", ""};
        for (int i = 0; i < texts.length; i++) {
            Lakes.tape(lake, texts[i]);
            CHECK.same("register", lake.register(i < 2 ? 0 : 1), due[i]);
            CHECK.same("the plain form", Lakes.plain(lake), forms[i]);
        }
        lake.power(0);
        CHECK.same("LOST", Lakes.register(lake, 2, "{\"type\":\"bytes\"}"), RecordLake.LOST);
        CHECK.same("the plain form with LOST", Lakes.plain(lake), "\"bytes\"");
        CHECK.same("DOWN", Lakes.register(lake, 1, "\"int\""), RecordLake.DOWN);
        CHECK.same("the plain form with DOWN", Lakes.plain(lake), "\"bytes\"");
        lake.start();
        CHECK.same("the plain form behind start()", Lakes.plain(lake), "\"bytes\"");
    }

    /** Texts that are only looked at, or refused, leave all versions as they are. */
    private static void refusedTexts() {
        CHECK.says("(With a fault, UNFIT, FULL, DOWN the tape stays; with LOST it is empty.)");
        String r = "{\"type\":\"record\",\"name\":\"R\",\"fields\":[{\"name\":\"a\",\"type\":[\"null\",\"int\"]},"
                + "{\"name\":\"b\",\"type\":{\"type\":\"enum\",\"name\":\"E\",\"symbols\":[\"x\",\"y\"]}}#]}";
        String more = r.replace("#", ",{\"name\":\"c\",\"type\":\"string\",\"default\":\"see\"}");
        RecordLake lake = new RecordLake();
        Lakes.register(lake, 0, r.replace("#", ""));
        Lakes.register(lake, 0, more);
        Lakes.load(lake, 0, 0, 2, 8, 2, 0, 0);
        Lakes.register(lake, 1, more.replace("see", "saw"));
        String before = Snapshot.of(lake);
        String other = "[" + Lakes.repeat("{\"type\":\"enum\",\"name\":\"E#\",\"symbols\":[\"p\",\"q\",\"r\"]}", 9, ",") + ",{\"type\":\"record\","
                + "\"name\":\"S\",\"fields\":[{\"name\":\"d\",\"type\":\"bytes\",\"default\":\"other\"}]}]";
        String[] texts = {other, other + "?", other.replace("\"other\"", "1"), other.replace("\"bytes\"", "\"foo\""), more.replace("]}", "]")};
        int[] faults = {0, 1, 12, 3, 1};
        for (int i = 0; i < texts.length; i++) {
            Lakes.tape(lake, texts[i]);
            CHECK.same("schema()", lake.schema(), faults[i]);
            CHECK.same("versions and rows", Snapshot.of(lake), before);
            CHECK.same("register", lake.register(0), i == 0 ? RecordLake.UNFIT : -faults[i]);
            CHECK.same("versions and rows", Snapshot.of(lake), before);
        }
        CHECK.same("then another version", Lakes.register(lake, 0, more.replace("see", "new")), 2);
        lake.read(0, 2, 0);
        CHECK.same("its default", Lakes.out(lake), "2 8 2 6 110 101 119");
        lake.read(0, 1, 0);
        CHECK.same("the default before", Lakes.out(lake), "2 8 2 6 115 101 101");
    }

    private static void places() {
        CHECK.says("Where the latest fault that schema, register, look, or load told was; NONE if the latest of these told none (one that answered DOWN does not count).");
        RecordLake lake = new RecordLake();
        CHECK.same("a new one", lake.place(), RecordLake.NONE);
        Lakes.register(lake, 0, "\"boolean\"");
        for (int kind = 0; kind < 4; kind++) {
            for (int next = 0; next < 8; next++) {
                told(lake, kind);
                CHECK.same("a fault of " + kind, lake.place(), 3);
                toldNone(lake, next);
                CHECK.same("then none of " + next, lake.place(), RecordLake.NONE);
            }
        }
        told(lake, 2);
        lake.power(0);
        lake.copy(0, 0, 0);
        Lakes.tape(lake, "\"int\"");
        CHECK.same("register", lake.register(0), RecordLake.DOWN);
        CHECK.same("look", lake.look(0, 0), RecordLake.DOWN);
        CHECK.same("load", lake.load(0, 0), RecordLake.DOWN);
        CHECK.same("DOWN does not count", lake.place(), 3);
        lake.start();
        CHECK.same("nor does start()", lake.place(), 3);
    }

    /** A fault at place 3. */
    private static void told(RecordLake lake, int kind) {
        Lakes.tape(lake, kind < 2 ? Lakes.bytes("   ?") : Lakes.bytes(1, 1, 0, 2));
        int answer = kind == 0 ? lake.schema() : kind == 1 ? lake.register(1) : kind == 2 ? lake.look(0, 0) : lake.load(0, 0);
        CHECK.no("a fault", answer == 0);
    }

    private static void toldNone(RecordLake lake, int kind) {
        Lakes.tape(lake, kind < 2 ? Lakes.bytes("\"null\"") : kind < 4 ? Lakes.bytes(1) : kind < 6 ? Lakes.bytes() : Lakes.many(4090, 1));
        switch (kind) {
            case 0:
                CHECK.same("schema", lake.schema(), 0);
                break;
            case 1:
                CHECK.same("UNFIT", lake.register(0), RecordLake.UNFIT);
                break;
            case 2:
                CHECK.same("look", lake.look(0, 0), 1);
                break;
            case 3:
                CHECK.same("load", lake.load(0, 0), 1);
                break;
            case 4:
                CHECK.same("EMPTY", lake.look(0, 0), RecordLake.EMPTY);
                break;
            case 5:
                CHECK.same("EMPTY", lake.load(0, 0), RecordLake.EMPTY);
                break;
            case 6:
                CHECK.same("FULL", lake.load(0, 0), RecordLake.FULL);
                break;
            default:
                lake.power(0);
                lake.end(1);
                CHECK.same("LOST", lake.load(0, 0), RecordLake.LOST);
                lake.start();
        }
    }

    private static void counts() {
        CHECK.says("what = 0 how many versions, 1 how many files of rows, 2 how many rows; DOWN.");
        RecordLake lake = lake();
        int[][] due = {{2, 2, 3}, {0, 0, 0}, {0, 0, 0}, {2, 2, 3}};
        for (int s = 0; s < 4; s++) {
            int subject = s;
            for (int what = 0; what < 3; what++) {
                CHECK.same("count(" + s + ", " + what + ")", lake.count(s, what), due[s][what]);
            }
            CHECK.says("IndexOutOfBoundsException; IllegalArgumentException when what is none of these.");
            for (int what : new int[] {LEAST, -1, 3, MOST}) {
                CHECK.argument("count(" + s + ", " + what + ")", () -> lake.count(subject, what));
            }
        }
    }

    private static void outStays() {
        CHECK.says("DOWN (OUT stays).");
        RecordLake lake = lake();
        CHECK.same("read", lake.read(0, 0, 1), 1);
        CHECK.index("a row that is not there", () -> lake.read(0, 0, 3));
        CHECK.same("OUT stays with what throws", Lakes.out(lake), "4");
        lake.power(0);
        lake.clear(0);
        CHECK.same("DOWN", lake.read(0, 0, 0), RecordLake.DOWN);
        CHECK.same("OUT stays", Lakes.out(lake), "4");
        lake.start();
        CHECK.same("OUT stays behind start()", Lakes.out(lake), "4");
        CHECK.same("a long as an int", lake.read(0, 0, 2), RecordLake.UNRESOLVED);
        CHECK.same("and OUT is empty", lake.size(1), 0);
        CHECK.says("OUT, the plain form, the tape, place stay.");
        lake.read(0, 0, 1);
        Lakes.tape(lake, "\"string\"");
        lake.schema();
        Lakes.tape(lake, Lakes.bytes(2, 128));
        lake.look(0, 0);
        int[] due = {RecordLake.UNRESOLVED, 3, RecordLake.EMPTY, 6};
        int[][] calls = {{0, 0, 0}, {0, 3, 1}, {1, 0, 0}, {3, 3, 1}};
        for (int i = 0; i < calls.length; i++) {
            CHECK.same("copy", lake.copy(calls[i][0], calls[i][1], calls[i][2]), due[i]);
            CHECK.same("OUT", Lakes.out(lake), "4");
            CHECK.same("the plain form", Lakes.plain(lake), "\"string\"");
            CHECK.same("place()", lake.place(), 2);
            CHECK.same("the tape", Check.thrownBy(() -> lake.end(2)), "nothing");
        }
    }

    private static void calls512() {
        CHECK.says("An object is used for at most 512 calls after it has been made; what later calls answer is free.");
        RecordLake lake = new RecordLake();
        lake.feed(0x22696e74, 0x22202020, 0, 0, 0);
        lake.end(5);
        CHECK.same("register", lake.register(0), 0);
        int calls = 3;
        while (calls < 507) {
            lake.feed(0x02000000, 0, 0, 0, 0);
            lake.end(1);
            CHECK.same("load", lake.load(0, 0), 1);
            lake.power(0);
            CHECK.same("clear", lake.clear(0), RecordLake.LOST);
            CHECK.same("start", lake.start(), 2);
            CHECK.same("clear", lake.clear(0), 1);
            calls += 7;
        }
        CHECK.same("the 508th to the 512th", lake.files() + lake.count(0, 0) + lake.count(0, 1) + lake.place() + lake.size(0), 1 + 1 + 0 - 1 + 5);
    }
}
