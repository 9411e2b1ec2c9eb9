import java.io.ByteArrayOutputStream;
import java.math.BigInteger;
import java.nio.charset.StandardCharsets;
import java.util.ArrayList;
import java.util.Arrays;
import java.util.HashMap;
import java.util.HashSet;
import java.util.LinkedHashMap;
import java.util.List;
import java.util.Map;
import java.util.Set;

/**
 * The document once more, as slow and plain as can be: trees of objects, no blocks with bytes in them,
 * and a change is one assignment. What it answers is held against the class, call by call.
 */
final class Model {
    /** Ends what is being looked at. */
    static final class Fault extends RuntimeException {
        private static final long serialVersionUID = 1;
        final int number;
        final int place;

        Fault(int number, int place) {
            this.number = number;
            this.place = place;
        }
    }

    /** Ends a row that is being told. */
    static final class Stop extends RuntimeException {
        private static final long serialVersionUID = 1;
        final int answer;

        Stop(int answer) {
            this.answer = answer;
        }
    }

    static final class Value {
        final int place;
        Map<String, Value> members;
        List<Value> list;
        String string;
        BigInteger number;
        String word;

        Value(int place) {
            this.place = place;
        }
    }

    static final class Field {
        String name;
        Schema schema;
        Value standard;
    }

    static final class Schema {
        final String kind;
        String name;
        Schema items;
        int bytes;
        final List<Schema> branches = new ArrayList<>();
        final List<String> symbols = new ArrayList<>();
        String standard;
        final List<Field> fields = new ArrayList<>();

        Schema(String kind) {
            this.kind = kind;
        }

        boolean is(String word) {
            return kind.equals(word);
        }

        Field field(String wanted) {
            for (Field f : fields) {
                if (f.name.equals(wanted)) {
                    return f;
                }
            }
            return null;
        }
    }

    static final class Datum {
        final Schema schema;
        byte[] bytes;
        int choice;
        Datum branch;
        final List<Datum> parts = new ArrayList<>();
        final List<byte[]> keys = new ArrayList<>();

        Datum(Schema schema) {
            this.schema = schema;
        }
    }

    static final class Version {
        Schema schema;
        String plain;
    }

    static final class Stored {
        int subject;
        int version;
        int first;
        int wants;
        int rows = -1;
        List<byte[]> data;
        Version told;
    }

    private static final List<String> WORDS = List.of("null", "boolean", "int", "long", "bytes", "string");
    private static final List<String> TAKEN = List.of("array", "map", "fixed", "enum", "record");

    byte[] tape = new byte[0];
    byte[] plain = new byte[0];
    byte[] out = new byte[0];
    int place = -1;
    int power = -1;
    boolean down;
    List<Stored> files = new ArrayList<>();

    // ---- 1 TEXTS

    private static final class Reader {
        final byte[] text;
        int at;

        Reader(byte[] text) {
            this.text = text;
        }

        int peek() {
            return at < text.length ? text[at] & 255 : -1;
        }

        void blanks() {
            while (peek() == 9 || peek() == 10 || peek() == 13 || peek() == 32) {
                at++;
            }
        }

        void want(char c) {
            if (peek() != c) {
                throw new Fault(1, at);
            }
            at++;
        }

        Value value(int outer) {
            blanks();
            Value v = new Value(at);
            int b = peek();
            if ((b == '{' || b == '[') && outer == 24) {
                throw new Fault(1, at);
            }
            if (b == '{') {
                members(v, outer);
            } else if (b == '[') {
                list(v, outer);
            } else if (b == '"') {
                v.string = string();
            } else if (b == '-' || b >= '0' && b <= '9') {
                v.number = number();
            } else {
                String word = b == 't' ? "true" : b == 'f' ? "false" : b == 'n' ? "null" : "?";
                for (char c : word.toCharArray()) {
                    want(c == '?' ? '\uffff' : c);
                }
                v.word = word;
            }
            return v;
        }

        void members(Value v, int outer) {
            v.members = new LinkedHashMap<>();
            at++;
            blanks();
            if (peek() == '}') {
                at++;
                return;
            }
            while (true) {
                blanks();
                int key = at;
                if (peek() != '"') {
                    throw new Fault(1, at);
                }
                String name = string();
                if (v.members.containsKey(name)) {
                    throw new Fault(1, key);
                }
                blanks();
                want(':');
                v.members.put(name, value(outer + 1));
                blanks();
                if (peek() == '}') {
                    at++;
                    return;
                }
                want(',');
            }
        }

        void list(Value v, int outer) {
            v.list = new ArrayList<>();
            at++;
            blanks();
            if (peek() == ']') {
                at++;
                return;
            }
            while (true) {
                v.list.add(value(outer + 1));
                blanks();
                if (peek() == ']') {
                    at++;
                    return;
                }
                want(',');
            }
        }

        String string() {
            StringBuilder all = new StringBuilder();
            want('"');
            while (peek() != '"') {
                int b = peek();
                if (b < 32 || b > 126) {
                    throw new Fault(1, at);
                }
                at++;
                if (b != '\\') {
                    all.append((char) b);
                    continue;
                }
                int which = "\"\\/bfnrt".indexOf(peek() < 0 ? '?' : (char) peek());
                if (which >= 0) {
                    all.append("\"\\/\b\f\n\r\t".charAt(which));
                    at++;
                    continue;
                }
                int start = at - 1;
                want('u');
                int n = 0;
                for (int i = 0; i < 4; i++) {
                    int digit = "0123456789abcdef".indexOf(Character.toLowerCase(peek() < 0 ? '?' : (char) peek()));
                    if (digit < 0) {
                        throw new Fault(1, at);
                    }
                    n = 16 * n + digit;
                    at++;
                }
                if (n > 255) {
                    throw new Fault(1, start);
                }
                all.append((char) n);
            }
            at++;
            return all.toString();
        }

        BigInteger number() {
            int start = at;
            if (peek() == '-') {
                at++;
            }
            if (peek() < '0' || peek() > '9') {
                throw new Fault(1, at);
            }
            boolean alone = peek() == '0';
            do {
                at++;
            } while (!alone && peek() >= '0' && peek() <= '9');
            BigInteger n = new BigInteger(new String(text, start, at - start, StandardCharsets.ISO_8859_1));
            if (n.bitLength() > 63) {
                throw new Fault(1, start);
            }
            return n;
        }
    }

    private int valueEnd;

    private Value text(byte[] bytes) {
        Reader reader = new Reader(bytes);
        Value v = reader.value(0);
        valueEnd = reader.at;
        reader.blanks();
        if (reader.at < bytes.length) {
            throw new Fault(1, reader.at);
        }
        return v;
    }

    // ---- 2 SCHEMAS

    private static final class Maker {
        int seen;
        final Map<String, Schema> defined = new HashMap<>();
        final List<Field> standards = new ArrayList<>();

        Schema make(Value v, int outer, boolean branch) {
            if (seen == 128) {
                throw new Fault(13, v.place);
            }
            seen++;
            if (outer == 16) {
                throw new Fault(14, v.place);
            }
            if (v.string != null) {
                return known(v);
            }
            if (v.list != null) {
                return union(v, outer, branch);
            }
            if (v.members == null) {
                throw new Fault(2, v.place);
            }
            Value type = v.members.get("type");
            if (type == null || type.string == null) {
                throw new Fault(7, v.place);
            }
            String t = type.string;
            if (t.equals("array") || t.equals("map")) {
                Schema s = new Schema(t);
                Value items = need(v, t.equals("array") ? "items" : "values");
                s.items = make(items, outer + 1, false);
                return s;
            }
            if (t.equals("fixed") || t.equals("enum") || t.equals("record")) {
                return named(v, t, outer);
            }
            return known(type);
        }

        Schema known(Value v) {
            if (WORDS.contains(v.string)) {
                return new Schema(v.string);
            }
            if (defined.containsKey(v.string)) {
                return defined.get(v.string);
            }
            throw new Fault(3, v.place);
        }

        Value need(Value v, String member) {
            Value m = v.members.get(member);
            if (m == null) {
                throw new Fault(8, v.place);
            }
            return m;
        }

        Schema union(Value v, int outer, boolean branch) {
            if (branch) {
                throw new Fault(4, v.place);
            }
            if (v.list.isEmpty() || v.list.size() > 16) {
                throw new Fault(5, v.place);
            }
            Schema s = new Schema("union");
            Set<String> before = new HashSet<>();
            for (Value b : v.list) {
                Schema made = make(b, outer + 1, true);
                if (!before.add(made.name == null ? made.kind : "name " + made.name)) {
                    throw new Fault(6, b.place);
                }
                s.branches.add(made);
            }
            return s;
        }

        Schema named(Value v, String kind, int outer) {
            Value name = need(v, "name");
            if (name.string == null) {
                throw new Fault(8, v.place);
            }
            if (!isName(name.string) || WORDS.contains(name.string) || TAKEN.contains(name.string)
                    || defined.containsKey(name.string)) {
                throw new Fault(9, name.place);
            }
            Schema s = new Schema(kind);
            s.name = name.string;
            defined.put(s.name, s);
            if (kind.equals("fixed")) {
                Value size = need(v, "size");
                if (size.number == null || size.number.signum() < 0 || size.number.compareTo(BigInteger.valueOf(64)) > 0) {
                    throw new Fault(10, size.place);
                }
                s.bytes = size.number.intValue();
            } else if (kind.equals("enum")) {
                symbols(v, s);
            } else {
                fields(v, s, outer);
            }
            return s;
        }

        void symbols(Value v, Schema s) {
            Value all = need(v, "symbols");
            if (all.list == null || all.list.isEmpty() || all.list.size() > 32) {
                throw new Fault(11, all.place);
            }
            for (Value symbol : all.list) {
                if (symbol.string == null || !isName(symbol.string) || s.symbols.contains(symbol.string)) {
                    throw new Fault(11, symbol.place);
                }
                s.symbols.add(symbol.string);
            }
            Value standard = v.members.get("default");
            if (standard != null) {
                if (standard.string == null || !s.symbols.contains(standard.string)) {
                    throw new Fault(12, standard.place);
                }
                s.standard = standard.string;
            }
        }

        void fields(Value v, Schema s, int outer) {
            Value all = need(v, "fields");
            if (all.list == null || all.list.size() > 32) {
                throw new Fault(11, all.place);
            }
            for (Value one : all.list) {
                if (one.members == null) {
                    throw new Fault(11, one.place);
                }
                Value name = need(one, "name");
                if (name.string == null) {
                    throw new Fault(8, one.place);
                }
                if (!isName(name.string) || s.field(name.string) != null) {
                    throw new Fault(9, name.place);
                }
                Field f = new Field();
                f.name = name.string;
                f.schema = make(need(one, "type"), outer + 1, false);
                f.standard = one.members.get("default");
                s.fields.add(f);
                standards.add(f);
            }
        }
    }

    private static boolean isName(String s) {
        return s.matches("[A-Za-z_][A-Za-z0-9_]{0,31}");
    }

    private static void fit(Value v, Schema s) {
        boolean fits;
        switch (s.kind) {
            case "null":
                fits = "null".equals(v.word);
                break;
            case "boolean":
                fits = "true".equals(v.word) || "false".equals(v.word);
                break;
            case "int":
                fits = v.number != null && v.number.bitLength() <= 31;
                break;
            case "long":
                fits = v.number != null;
                break;
            case "fixed":
                fits = v.string != null && v.string.length() == s.bytes;
                break;
            case "enum":
                fits = v.string != null && s.symbols.contains(v.string);
                break;
            case "array":
                fits = v.list != null;
                break;
            case "map":
            case "record":
                fits = v.members != null;
                break;
            case "union":
                fits = true;
                break;
            default:
                fits = v.string != null;
        }
        if (!fits) {
            throw new Fault(12, v.place);
        }
        if (s.is("union")) {
            fit(v, s.branches.get(0));
        } else if (s.is("array")) {
            v.list.forEach(item -> fit(item, s.items));
        } else if (s.is("map")) {
            v.members.values().forEach(item -> fit(item, s.items));
        } else if (s.is("record")) {
            for (Field f : s.fields) {
                Value held = v.members.get(f.name);
                if (held == null) {
                    throw new Fault(12, v.place);
                }
                fit(held, f.schema);
            }
        }
    }

    private static String plainOf(Schema s, Set<String> stood) {
        if (s.name != null && !stood.add(s.name)) {
            return "\"" + s.name + "\"";
        }
        StringBuilder all = new StringBuilder();
        switch (s.kind) {
            case "array":
                return "{\"type\":\"array\",\"items\":" + plainOf(s.items, stood) + "}";
            case "map":
                return "{\"type\":\"map\",\"values\":" + plainOf(s.items, stood) + "}";
            case "union":
                for (Schema b : s.branches) {
                    all.append(all.length() == 0 ? "" : ",").append(plainOf(b, stood));
                }
                return "[" + all + "]";
            case "fixed":
                return "{\"name\":\"" + s.name + "\",\"type\":\"fixed\",\"size\":" + s.bytes + "}";
            case "enum":
                return "{\"name\":\"" + s.name + "\",\"type\":\"enum\",\"symbols\":[\"" + String.join("\",\"", s.symbols) + "\"]}";
            case "record":
                for (Field f : s.fields) {
                    all.append(all.length() == 0 ? "" : ",").append("{\"name\":\"").append(f.name).append("\",\"type\":")
                            .append(plainOf(f.schema, stood)).append("}");
                }
                return "{\"name\":\"" + s.name + "\",\"type\":\"record\",\"fields\":[" + all + "]}";
            default:
                return "\"" + s.kind + "\"";
        }
    }

    private static long printOf(String plain) {
        long first = 0xC15D213AA4D7A795L;
        long[] table = new long[256];
        for (int i = 0; i < 256; i++) {
            table[i] = i;
            for (int j = 0; j < 8; j++) {
                long went = table[i] & 1;
                table[i] = table[i] >>> 1 ^ (went == 1 ? first : 0);
            }
        }
        long p = first;
        for (char b : plain.toCharArray()) {
            p = p >>> 8 ^ table[(int) ((p ^ b) & 255)];
        }
        return p;
    }

    private Version versionOf(byte[] bytes) {
        Maker maker = new Maker();
        Version made = new Version();
        made.schema = maker.make(text(bytes), 0, false);
        for (Field f : maker.standards) {
            if (f.standard != null) {
                fit(f.standard, f.schema);
            }
        }
        made.plain = plainOf(made.schema, new HashSet<>());
        return made;
    }

    // ---- 3 ROWS OF BYTES

    static byte[] varint(long v) {
        return Lakes.varint(v);
    }

    private static final class Looking {
        final byte[] bytes;
        int at;
        int data;
        int items;

        Looking(byte[] bytes, int at) {
            this.bytes = bytes;
            this.at = at;
        }

        int take() {
            if (at == bytes.length) {
                throw new Fault(1, at);
            }
            return bytes[at++] & 255;
        }

        long number() {
            int start = at;
            BigInteger all = BigInteger.ZERO;
            for (int i = 0; i < 10; i++) {
                int b = take();
                if (i == 9 && b > 1) {
                    throw new Fault(2, start);
                }
                all = all.add(BigInteger.valueOf(b & 127).shiftLeft(7 * i));
                if (b < 128) {
                    break;
                }
            }
            BigInteger half = all.shiftRight(1);
            return (all.testBit(0) ? half.negate().subtract(BigInteger.ONE) : half).longValueExact();
        }

        byte[] bytes(long n) {
            if (n > bytes.length - at) {
                throw new Fault(1, bytes.length);
            }
            at += (int) n;
            return Arrays.copyOfRange(bytes, at - (int) n, at);
        }

        byte[] string() {
            int start = at;
            long n = number();
            if (n < 0) {
                throw new Fault(6, start);
            }
            return bytes(n);
        }

        Datum datum(Schema s, int outer) {
            if (outer == 32) {
                throw new Fault(7, at);
            }
            if (data == 4000) {
                throw new Fault(8, at);
            }
            data++;
            Datum d = new Datum(s);
            int start = at;
            switch (s.kind) {
                case "null":
                    d.bytes = new byte[0];
                    break;
                case "boolean":
                    if (take() > 1) {
                        throw new Fault(3, start);
                    }
                    d.bytes = new byte[] {bytes[start]};
                    break;
                case "int":
                case "long":
                    long n = number();
                    if (s.is("int") && (n < Integer.MIN_VALUE || n > Integer.MAX_VALUE)) {
                        throw new Fault(2, start);
                    }
                    d.bytes = varint(n);
                    break;
                case "bytes":
                case "string":
                    byte[] held = string();
                    d.bytes = Lakes.join(varint(held.length), held);
                    break;
                case "fixed":
                    d.bytes = bytes(s.bytes);
                    break;
                case "enum":
                    d.choice = choice(s.symbols.size(), 5);
                    break;
                case "union":
                    d.choice = choice(s.branches.size(), 4);
                    d.branch = datum(s.branches.get(d.choice), outer + 1);
                    break;
                case "record":
                    for (Field f : s.fields) {
                        d.parts.add(datum(f.schema, outer + 1));
                    }
                    break;
                default:
                    blocks(d, outer);
            }
            return d;
        }

        int choice(int n, int fault) {
            int start = at;
            long which = number();
            if (which < 0 || which >= n) {
                throw new Fault(fault, start);
            }
            return (int) which;
        }

        void blocks(Datum d, int outer) {
            while (true) {
                int start = at;
                long n = number();
                if (n == 0) {
                    return;
                }
                BigInteger many = BigInteger.valueOf(n).abs();
                if (many.add(BigInteger.valueOf(items)).compareTo(BigInteger.valueOf(2000)) > 0) {
                    throw new Fault(6, start);
                }
                items += many.intValue();
                int told = at;
                Long wide = n < 0 ? number() : null;
                int first = at;
                for (int i = 0; i < many.intValue(); i++) {
                    if (d.schema.is("map")) {
                        d.keys.add(string());
                    }
                    d.parts.add(datum(d.schema.items, outer + 1));
                }
                if (wide != null && wide != at - first) {
                    throw new Fault(6, told);
                }
            }
        }
    }

    private static void write(Datum d, ByteArrayOutputStream to) {
        switch (d.schema.kind) {
            case "enum":
                to.writeBytes(varint(d.choice));
                break;
            case "union":
                to.writeBytes(varint(d.choice));
                write(d.branch, to);
                break;
            case "record":
                d.parts.forEach(part -> write(part, to));
                break;
            case "array":
            case "map":
                if (!d.parts.isEmpty()) {
                    to.writeBytes(varint(d.parts.size()));
                }
                for (int i = 0; i < d.parts.size(); i++) {
                    if (d.schema.is("map")) {
                        to.writeBytes(varint(d.keys.get(i).length));
                        to.writeBytes(d.keys.get(i));
                    }
                    write(d.parts.get(i), to);
                }
                to.write(0);
                break;
            default:
                to.writeBytes(d.bytes);
        }
    }

    // ---- 4 TOLD AGAIN

    private static boolean matches(Schema w, Schema r) {
        if (w.is("union") || r.is("union")) {
            return true;
        }
        if (w.is("int") && r.is("long") || w.is("bytes") && r.is("string") || w.is("string") && r.is("bytes")) {
            return true;
        }
        if (!w.kind.equals(r.kind)) {
            return false;
        }
        if (w.items != null) {
            return matches(w.items, r.items);
        }
        return w.name == null || w.name.equals(r.name) && w.bytes == r.bytes;
    }

    private static boolean isAlone(Schema w, Schema r) {
        return w.is("int") && r.is("long") || w.is("bytes") && r.is("string") || w.is("string") && r.is("bytes")
                || w.kind.equals(r.kind) && (w.name == null || w.name.equals(r.name) && w.bytes == r.bytes);
    }

    private static void tell(Datum d, Schema r, Told to) {
        Schema w = d.schema;
        if (w.is("union")) {
            tell(d.branch, r, to);
            return;
        }
        if (r.is("union")) {
            for (int i = 0; i < r.branches.size(); i++) {
                if (matches(w, r.branches.get(i))) {
                    to.put(varint(i));
                    tell(d, r.branches.get(i), to);
                    return;
                }
            }
            throw new Stop(-20);
        }
        if (!isAlone(w, r)) {
            throw new Stop(-20);
        }
        if (w.is("enum")) {
            String symbol = w.symbols.get(d.choice);
            String same = r.symbols.contains(symbol) ? symbol : r.standard;
            if (same == null) {
                throw new Stop(-20);
            }
            to.put(varint(r.symbols.indexOf(same)));
        } else if (w.is("record")) {
            for (Field f : r.fields) {
                Field of = w.field(f.name);
                if (of != null) {
                    tell(d.parts.get(w.fields.indexOf(of)), f.schema, to);
                } else if (f.standard != null) {
                    standard(f.standard, f.schema, to);
                } else {
                    throw new Stop(-20);
                }
            }
        } else if (w.items != null) {
            if (!d.parts.isEmpty()) {
                to.put(varint(d.parts.size()));
            }
            for (int i = 0; i < d.parts.size(); i++) {
                if (w.is("map")) {
                    to.put(varint(d.keys.get(i).length));
                    to.put(d.keys.get(i));
                }
                tell(d.parts.get(i), r.items, to);
            }
            to.put(varint(0));
        } else {
            to.put(d.bytes);
        }
    }

    private static void standard(Value v, Schema s, Told to) {
        switch (s.kind) {
            case "null":
                return;
            case "boolean":
                to.put(Lakes.bytes(v.word.equals("true") ? 1 : 0));
                return;
            case "int":
            case "long":
                to.put(varint(v.number.longValueExact()));
                return;
            case "enum":
                to.put(varint(s.symbols.indexOf(v.string)));
                return;
            case "fixed":
                to.put(Lakes.bytes(v.string));
                return;
            case "union":
                to.put(varint(0));
                standard(v, s.branches.get(0), to);
                return;
            case "record":
                s.fields.forEach(f -> standard(v.members.get(f.name), f.schema, to));
                return;
            case "array":
                if (!v.list.isEmpty()) {
                    to.put(varint(v.list.size()));
                }
                v.list.forEach(item -> standard(item, s.items, to));
                to.put(varint(0));
                return;
            case "map":
                if (!v.members.isEmpty()) {
                    to.put(varint(v.members.size()));
                }
                v.members.forEach((key, item) -> {
                    to.put(varint(key.length()));
                    to.put(Lakes.bytes(key));
                    standard(item, s.items, to);
                });
                to.put(varint(0));
                return;
            default:
                to.put(varint(v.string.length()));
                to.put(Lakes.bytes(v.string));
        }
    }

    private static final class Told {
        final ByteArrayOutputStream all = new ByteArrayOutputStream();

        void put(byte[] bytes) {
            for (byte b : bytes) {
                if (all.size() == 4096) {
                    throw new Stop(-31);
                }
                all.write(b);
            }
        }
    }

    private static byte[] toldAs(byte[] row, Schema w, Schema r) {
        Told to = new Told();
        tell(new Looking(row, 0).datum(w, 0), r, to);
        return to.all.toByteArray();
    }

    private static boolean fits(Schema w, Schema r, Map<Schema, Set<Schema>> asked) {
        if (!asked.computeIfAbsent(w, k -> new HashSet<>()).add(r)) {
            return true;
        }
        if (w.is("union")) {
            return w.branches.stream().allMatch(b -> fits(b, r, asked));
        }
        if (r.is("union")) {
            for (Schema b : r.branches) {
                if (matches(w, b)) {
                    return fits(w, b, asked);
                }
            }
            return false;
        }
        if (!isAlone(w, r)) {
            return false;
        }
        if (w.is("enum")) {
            return r.standard != null || r.symbols.containsAll(w.symbols);
        }
        if (w.items != null) {
            return fits(w.items, r.items, asked);
        }
        for (Field f : r.fields) {
            Field of = w.field(f.name);
            if (of == null ? f.standard == null : !fits(of.schema, f.schema, asked)) {
                return false;
            }
        }
        return true;
    }

    // ---- 5 SUBJECTS, TABLES, THE DISK

    private static int blocks(int bytes) {
        return Math.max(1, (bytes + 255) / 256);
    }

    private int room(int bytes) {
        boolean[] used = new boolean[128];
        used[0] = true;
        used[1] = true;
        for (Stored f : files) {
            Arrays.fill(used, f.first, f.first + blocks(f.wants), true);
        }
        for (int b = 0; b + blocks(bytes) <= 128; b++) {
            boolean free = true;
            for (int i = 0; i < blocks(bytes); i++) {
                free &= !used[b + i];
            }
            if (free) {
                return b;
            }
        }
        return -1;
    }

    /** Whether all these blocks can be written. */
    private boolean writes(int blocks) {
        if (power < 0 || power >= blocks) {
            power = power < 0 ? -1 : power - blocks;
            return true;
        }
        power = -1;
        down = true;
        return false;
    }

    private int store(Stored made) {
        made.first = room(made.wants);
        if (made.wants > 4096 || files.size() == 40 || made.first < 0) {
            return -31;
        }
        if (!writes(blocks(made.wants) + 1)) {
            return -32;
        }
        files.add(made);
        return 0;
    }

    private static Stored rowsFile(int subject, int version, List<byte[]> rows) {
        Stored made = new Stored();
        made.subject = subject;
        made.version = version;
        made.rows = rows.size();
        made.data = rows;
        int bytes = 0;
        for (byte[] row : rows) {
            bytes += row.length;
        }
        made.wants = 11 + varint(rows.size()).length + varint(bytes).length + bytes + 8;
        return made;
    }

    private List<Version> versions(int subject) {
        List<Version> all = new ArrayList<>();
        for (Stored f : files) {
            if (f.subject == subject && f.rows < 0) {
                all.add(f.told);
            }
        }
        return all;
    }

    List<Stored> table(int subject) {
        List<Stored> all = new ArrayList<>();
        for (Stored f : files) {
            if (f.subject == subject && f.rows >= 0) {
                all.add(f);
            }
        }
        return all;
    }

    private int rows(int subject) {
        int n = 0;
        for (Stored f : table(subject)) {
            n += f.rows;
        }
        return n;
    }

    // ---- 6 CALLS

    private static void subject(int subject) {
        if (subject < 0 || subject > 3) {
            throw new IndexOutOfBoundsException();
        }
    }

    Version version(int subject, int version) {
        if (version < 0 || version >= versions(subject).size()) {
            throw new IndexOutOfBoundsException();
        }
        return versions(subject).get(version);
    }

    int feed(int... numbers) {
        if (tape.length + 20 > 4096) {
            throw new IllegalStateException();
        }
        for (int n : numbers) {
            tape = Lakes.join(tape, Lakes.bytes(n >> 24, n >> 16, n >> 8, n));
        }
        return tape.length;
    }

    void end(int n) {
        if (n < 0 || n > tape.length) {
            throw new IllegalArgumentException();
        }
        tape = Arrays.copyOf(tape, n);
    }

    private Version lookAtText() {
        plain = new byte[0];
        place = -1;
        try {
            Version made = versionOf(tape);
            plain = Lakes.bytes(made.plain);
            return made;
        } catch (Fault f) {
            place = f.place;
            throw f;
        }
    }

    int schema() {
        try {
            lookAtText();
            return 0;
        } catch (Fault f) {
            return f.number;
        }
    }

    int register(int subject) {
        subject(subject);
        if (down) {
            return -33;
        }
        Stored made = new Stored();
        try {
            made.told = lookAtText();
        } catch (Fault f) {
            return -f.number;
        }
        List<Version> before = versions(subject);
        for (Version v : before) {
            if (!fits(v.schema, made.told.schema, new HashMap<>())) {
                return -30;
            }
        }
        if (before.size() == 16) {
            return -31;
        }
        made.subject = subject;
        made.version = before.size();
        made.wants = valueEnd;
        int done = store(made);
        if (done != -31) {
            tape = new byte[0];
        }
        return done == 0 ? made.version : done;
    }

    private List<byte[]> rowsOfTape(Schema s) {
        List<byte[]> rows = new ArrayList<>();
        if (tape.length == 0) {
            throw new Stop(-34);
        }
        int at = 0;
        while (at < tape.length) {
            Looking looking = new Looking(tape, at);
            Datum d = looking.datum(s, 0);
            if (looking.at == at) {
                throw new Stop(-34);
            }
            at = looking.at;
            ByteArrayOutputStream normal = new ByteArrayOutputStream();
            write(d, normal);
            rows.add(normal.toByteArray());
        }
        return rows;
    }

    int look(int subject, int version) {
        subject(subject);
        if (down) {
            return -33;
        }
        Schema s = version(subject, version).schema;
        place = -1;
        try {
            return rowsOfTape(s).size();
        } catch (Fault f) {
            place = f.place;
            return -f.number;
        } catch (Stop stop) {
            return stop.answer;
        }
    }

    int load(int subject, int version) {
        int looked = look(subject, version);
        if (looked < 0) {
            return looked;
        }
        int done = store(rowsFile(subject, version, rowsOfTape(version(subject, version).schema)));
        if (done != -31) {
            tape = new byte[0];
        }
        return done == 0 ? looked : done;
    }

    int read(int subject, int version, int i) {
        subject(subject);
        if (down) {
            return -33;
        }
        Schema r = version(subject, version).schema;
        if (i < 0 || i >= rows(subject)) {
            throw new IndexOutOfBoundsException();
        }
        int left = i;
        for (Stored f : table(subject)) {
            if (left < f.rows) {
                try {
                    out = toldAs(f.data.get(left), version(subject, f.version).schema, r);
                    return out.length;
                } catch (Stop stop) {
                    out = new byte[0];
                    return stop.answer;
                }
            }
            left -= f.rows;
        }
        return -99;
    }

    int copy(int subject, int other, int version) {
        subject(subject);
        subject(other);
        if (down) {
            return -33;
        }
        Schema r = version(other, version).schema;
        List<byte[]> told = new ArrayList<>();
        int bytes = 0;
        for (Stored f : table(subject)) {
            for (byte[] row : f.data) {
                try {
                    told.add(toldAs(row, version(subject, f.version).schema, r));
                    bytes += told.get(told.size() - 1).length;
                } catch (Stop stop) {
                    return stop.answer;
                }
            }
        }
        if (bytes == 0) {
            return -34;
        }
        try {
            told.forEach(row -> new Looking(row, 0).datum(r, 0));
        } catch (Fault f) {
            return -31;
        }
        int done = store(rowsFile(other, version, told));
        return done == 0 ? told.size() : done;
    }

    int compact(int subject) {
        subject(subject);
        if (down) {
            return -33;
        }
        List<Stored> all = table(subject);
        for (int i = 0; i + 1 < all.size(); i++) {
            Stored a = all.get(i);
            Stored b = all.get(i + 1);
            List<byte[]> rows = new ArrayList<>(a.data);
            rows.addAll(b.data);
            Stored made = rowsFile(subject, a.version, rows);
            if (made.wants > 4096 || !version(subject, a.version).plain.equals(version(subject, b.version).plain)) {
                continue;
            }
            made.first = room(made.wants);
            if (made.first < 0) {
                return -31;
            }
            if (!writes(blocks(made.wants) + 1)) {
                return -32;
            }
            files.set(files.indexOf(a), made);
            files.remove(b);
            return 1;
        }
        return 0;
    }

    int clear(int subject) {
        subject(subject);
        if (down) {
            return -33;
        }
        int rows = rows(subject);
        if (rows == 0) {
            return 0;
        }
        if (!writes(1)) {
            return -32;
        }
        files.removeAll(table(subject));
        return rows;
    }

    boolean fits(int subject, int w, int other, int r) {
        subject(subject);
        subject(other);
        return !down && fits(version(subject, w).schema, version(other, r).schema, new HashMap<>());
    }

    int count(int subject, int what) {
        subject(subject);
        if (what < 0 || what > 2) {
            throw new IllegalArgumentException();
        }
        if (down) {
            return -33;
        }
        return what == 0 ? versions(subject).size() : what == 1 ? table(subject).size() : rows(subject);
    }

    long print(int subject, int version) {
        subject(subject);
        return down ? 0 : printOf(version(subject, version).plain);
    }

    int letter(int i, int what) {
        if (what < 0 || what > 1) {
            throw new IllegalArgumentException();
        }
        byte[] of = what == 0 ? plain : out;
        if (i < 0 || i >= of.length) {
            throw new IndexOutOfBoundsException();
        }
        return of[i] & 255;
    }

    int size(int what) {
        if (what < 0 || what > 1) {
            throw new IllegalArgumentException();
        }
        return what == 0 ? plain.length : out.length;
    }

    int file(int k, int what) {
        if (!down && (k < 0 || k >= files.size())) {
            throw new IndexOutOfBoundsException();
        }
        if (what < 0 || what > 4) {
            throw new IllegalArgumentException();
        }
        if (down) {
            return -33;
        }
        Stored f = files.get(k);
        return new int[] {f.subject, f.version, f.first, f.wants, f.rows}[what];
    }

    int files() {
        return down ? -33 : files.size();
    }

    void power(int n) {
        if (n < -1 || n > 1000) {
            throw new IllegalArgumentException();
        }
        power = n;
    }

    int start() {
        if (!down) {
            throw new IllegalStateException();
        }
        down = false;
        return files.size();
    }
}
