/**
 * A lake of records: schemas kept by subjects as they grow, rows of bytes that are looked at before
 * they come in and told again as a later schema wants them, on a disk whose power may go at any block.
 *
 * <p>All rows that the calls work in are made once, with the object: no call makes a new one.
 */
public final class RecordLake {
    public static final int NONE = -1;
    public static final int UNRESOLVED = -20, UNFIT = -30, FULL = -31, LOST = -32, DOWN = -33, EMPTY = -34;

    private static final int FINE = 0;
    private static final int MOST_BYTES = 4096;
    private static final int FED_BYTES = 20;
    private static final int SUBJECTS = 4;
    private static final int MOST_VERSIONS = 16;
    private static final int MOST_FILES = 40;
    private static final int BLOCKS = 128;
    private static final int BLOCK_BYTES = 256;
    private static final int FIRST_FILE_BLOCK = 2;
    // What stands in a file of rows before and behind them is free: it has zeros there, and nothing reads them.
    private static final int HEAD_BYTES = 11;
    private static final int TAIL_BYTES = 8;
    private static final int MOST_POWER = 1000;
    private static final int MOST_DEPTH = 32;
    private static final int MOST_FIELDS = 32;
    private static final int MOST_ITEMS = 2000;
    private static final int MOST_SCHEMA_DEPTH = 16;

    private final Bytes tape;
    private final Bytes plain;
    private final Bytes out;
    private final Bytes toldRow;
    private final Bytes gathered;
    private final Bytes content;
    private final Text text;
    private final Schemas schemas;
    private final SchemaReader reader;
    private final PlainForm forms;
    private final Looker looker;
    private final Matching matching;
    private final Teller teller;
    private final Disk disk;
    private final FileList list;
    private int faultPlace;
    private boolean down;

    public RecordLake() {
        tape = new Bytes(MOST_BYTES);
        plain = new Bytes(MOST_BYTES);
        out = new Bytes(MOST_BYTES);
        toldRow = new Bytes(MOST_BYTES);
        gathered = new Bytes(MOST_BYTES);
        content = new Bytes(MOST_BYTES);
        text = new Text();
        schemas = new Schemas();
        reader = new SchemaReader(text, schemas);
        forms = new PlainForm(schemas);
        looker = new Looker(schemas);
        matching = new Matching(schemas);
        teller = new Teller(schemas, matching);
        disk = new Disk();
        list = new FileList();
        faultPlace = NONE;
        down = false;
    }

    public int feed(int a, int b, int c, int d, int e) throws IllegalStateException {
        if (tape.length > MOST_BYTES - FED_BYTES) {
            throw new IllegalStateException("the tape would have more than 4096 bytes");
        }
        tape.putNumber(a, 4);
        tape.putNumber(b, 4);
        tape.putNumber(c, 4);
        tape.putNumber(d, 4);
        tape.putNumber(e, 4);
        return tape.length;
    }

    public void end(int n) throws IllegalArgumentException {
        if (n < 0 || n > tape.length) {
            throw new IllegalArgumentException("the tape cannot be cut there");
        }
        tape.length = n;
    }

    public int schema() {
        readTape();
        schemas.drop();
        return reader.fault;
    }

    public int register(int subject) throws IndexOutOfBoundsException {
        needSubject(subject);
        if (down) {
            return DOWN;
        }
        int root = readTape();
        int answer = root == NONE ? -reader.fault : keepVersion(subject, root);
        if (answer >= 0 || answer == LOST) {
            tape.length = 0;
        } else {
            schemas.drop();
        }
        return answer;
    }

    public int look(int subject, int version) throws IndexOutOfBoundsException {
        needSubject(subject);
        if (down) {
            return DOWN;
        }
        needVersion(subject, version);
        return lookAtTape(schemas.rootOf(subject, version));
    }

    public int place() {
        return faultPlace;
    }

    public int load(int subject, int version) throws IndexOutOfBoundsException {
        needSubject(subject);
        if (down) {
            return DOWN;
        }
        needVersion(subject, version);
        int rows = lookAtTape(schemas.rootOf(subject, version));
        if (rows < 0) {
            return rows;
        }
        int done = pack(rows, looker.normal) ? storeFile(subject, version, rows) : FULL;
        if (done == FULL) {
            return FULL;
        }
        tape.length = 0;
        return done == FINE ? rows : done;
    }

    public int read(int subject, int version, int i) throws IndexOutOfBoundsException {
        needSubject(subject);
        if (down) {
            return DOWN;
        }
        needVersion(subject, version);
        int k = list.fileOfRow(subject, i);
        if (k == NONE) {
            throw new IndexOutOfBoundsException("there is no such row");
        }
        int writer = schemas.rootOf(subject, list.version[k]);
        openRows(k);
        for (int n = list.rowsBefore(k); n < i; n++) {
            teller.skipRow(writer);
        }
        out.length = 0;
        int told = teller.tell(writer, schemas.rootOf(subject, version), out);
        if (told != FINE) {
            out.length = 0;
            return told;
        }
        return out.length;
    }

    public int copy(int subject, int other, int version) throws IndexOutOfBoundsException {
        needSubject(subject);
        needSubject(other);
        if (down) {
            return DOWN;
        }
        needVersion(other, version);
        int rows = gather(subject, schemas.rootOf(other, version));
        if (rows < 0) {
            return rows;
        }
        int done = pack(rows, gathered) ? storeFile(other, version, rows) : FULL;
        return done == FINE ? rows : done;
    }

    public int compact(int subject) throws IndexOutOfBoundsException {
        needSubject(subject);
        if (down) {
            return DOWN;
        }
        for (int k = 0; k < list.length; k++) {
            int behind = list.isRowsOf(k, subject) ? list.nextRowsOf(subject, k + 1) : NONE;
            if (behind != NONE && sameForm(k, behind) && packBoth(k, behind)) {
                return replaceBoth(k, behind);
            }
        }
        return 0;
    }

    public int clear(int subject) throws IndexOutOfBoundsException {
        needSubject(subject);
        if (down) {
            return DOWN;
        }
        int rows = list.rowsOf(subject);
        if (rows == 0) {
            return 0;
        }
        list.removeRowsOf(subject);
        int done = writeList();
        return done == FINE ? rows : done;
    }

    public boolean fits(int subject, int w, int other, int r) throws IndexOutOfBoundsException {
        needSubject(subject);
        needSubject(other);
        if (down) {
            return false;
        }
        needVersion(subject, w);
        needVersion(other, r);
        return matching.isFitting(schemas.rootOf(subject, w), schemas.baseOf(subject, w),
                schemas.rootOf(other, r), schemas.baseOf(other, r));
    }

    public int count(int subject, int what) throws IndexOutOfBoundsException, IllegalArgumentException {
        needSubject(subject);
        needWhat(what, 2);
        if (down) {
            return DOWN;
        }
        switch (what) {
            case 0:
                return schemas.versions[subject];
            case 1:
                return list.filesOf(subject);
            default:
                return list.rowsOf(subject);
        }
    }

    public long print(int subject, int version) throws IndexOutOfBoundsException {
        needSubject(subject);
        if (down) {
            return 0;
        }
        needVersion(subject, version);
        return forms.printOf(schemas.rootOf(subject, version));
    }

    public int letter(int i, int what) throws IndexOutOfBoundsException, IllegalArgumentException {
        needWhat(what, 1);
        int b = what == 0 ? plain.at(i) : out.at(i);
        if (b == NONE) {
            throw new IndexOutOfBoundsException("there is no such byte");
        }
        return b;
    }

    public int size(int what) throws IllegalArgumentException {
        needWhat(what, 1);
        return what == 0 ? plain.length : out.length;
    }

    public int file(int k, int what) throws IndexOutOfBoundsException, IllegalArgumentException {
        if (!down && (k < 0 || k >= list.length)) {
            throw new IndexOutOfBoundsException("there is no such file");
        }
        needWhat(what, 4);
        if (down) {
            return DOWN;
        }
        switch (what) {
            case 0:
                return list.owner[k];
            case 1:
                return list.version[k];
            case 2:
                return list.first[k];
            case 3:
                return list.wants[k];
            default:
                return list.rows[k];
        }
    }

    public int files() {
        return down ? DOWN : list.length;
    }

    public void power(int n) throws IllegalArgumentException {
        if (n < NONE || n > MOST_POWER) {
            throw new IllegalArgumentException("power cannot be set so");
        }
        disk.untilLoss = n;
    }

    public int start() throws IllegalStateException {
        if (!down) {
            throw new IllegalStateException("it is not down");
        }
        list.readFrom(disk);
        for (int k = 0; k < list.length; k++) {
            if (list.rows[k] == NONE) {
                readVersion(k);
            }
        }
        down = false;
        return list.length;
    }

    private static void needSubject(int subject) {
        if (subject < 0 || subject >= SUBJECTS) {
            throw new IndexOutOfBoundsException("there is no such subject");
        }
    }

    private void needVersion(int subject, int version) {
        if (version < 0 || version >= schemas.versions[subject]) {
            throw new IndexOutOfBoundsException("there is no such version");
        }
    }

    private static void needWhat(int what, int most) {
        if (what < 0 || what > most) {
            throw new IllegalArgumentException("there is no such thing to ask for");
        }
    }

    /** The schema that the tape tells, or NONE; the plain form and the place become those of it. */
    private int readTape() {
        text.parse(tape.row, 0, tape.length);
        int root = reader.readSchema();
        plain.length = 0;
        if (root != NONE) {
            forms.writeTo(plain, root);
        }
        faultPlace = reader.place;
        return root;
    }

    /** The new version's number, UNFIT, FULL or LOST. */
    private int keepVersion(int subject, int root) {
        int version = schemas.versions[subject];
        for (int v = 0; v < version; v++) {
            if (!matching.isFitting(schemas.rootOf(subject, v), schemas.baseOf(subject, v), root, schemas.base)) {
                return UNFIT;
            }
        }
        if (version >= MOST_VERSIONS) {
            return FULL;
        }
        content.length = 0;
        content.putRow(tape.row, 0, text.valueEnd);
        int done = storeFile(subject, version, NONE);
        if (done != FINE) {
            return done;
        }
        schemas.keep(subject, root);
        return version;
    }

    /** Schemas are not on the disk but in their texts: each version's is read once more. */
    private void readVersion(int k) {
        text.parse(disk.bytes, list.first[k] * BLOCK_BYTES, list.wants[k]);
        int root = reader.readSchema();
        if (root == NONE) {
            schemas.drop();
        } else {
            schemas.keep(list.owner[k], root);
        }
    }

    /** How many rows the tape has (they are in looker.normal then), minus a fault, or EMPTY. */
    private int lookAtTape(int root) {
        faultPlace = NONE;
        looker.open(tape.row, 0, tape.length);
        for (int rows = 0; rows < tape.length; rows++) {
            int from = looker.at;
            if (!looker.row(root)) {
                faultPlace = looker.place;
                return -looker.fault;
            }
            if (looker.at == from) {
                return EMPTY;
            }
            if (looker.at >= tape.length) {
                return rows + 1;
            }
        }
        return EMPTY;
    }

    /** The rows of a table told as a schema, in gathered: how many, UNRESOLVED, FULL or EMPTY. */
    private int gather(int subject, int root) {
        gathered.length = 0;
        int rows = 0;
        int bytes = 0;
        boolean sound = true;
        for (int k = 0; k < list.length; k++) {
            if (!list.isRowsOf(k, subject)) {
                continue;
            }
            int writer = schemas.rootOf(subject, list.version[k]);
            openRows(k);
            for (int i = 0; i < list.rows[k]; i++) {
                toldRow.length = 0;
                int told = teller.tell(writer, root, toldRow);
                if (told != FINE) {
                    return told;
                }
                // Rows behind one that is too much are told nevertheless: one of them may be unresolved.
                sound = sound && gatherRow(root);
                rows++;
                bytes += toldRow.length;
            }
        }
        if (bytes == 0) {
            return EMPTY;
        }
        return sound ? rows : FULL;
    }

    private boolean gatherRow(int root) {
        looker.open(toldRow.row, 0, toldRow.length);
        return looker.row(root) && gathered.putRow(toldRow.row, 0, toldRow.length);
    }

    /** Sets the teller to the first row of a file. */
    private void openRows(int k) {
        int from = list.first[k] * BLOCK_BYTES;
        int limit = from + list.wants[k] - TAIL_BYTES;
        looker.open(disk.bytes, from + HEAD_BYTES, limit);
        looker.varint();
        looker.varint();
        teller.open(disk.bytes, looker.at, limit);
    }

    /** Makes a file of rows in content; false when it would be too long. */
    private boolean pack(int rows, Bytes data) {
        content.length = 0;
        return content.putZeros(HEAD_BYTES) && content.putVarint(rows) && content.putVarint(data.length)
                && content.putRow(data.row, 0, data.length) && content.putZeros(TAIL_BYTES);
    }

    private boolean packBoth(int k, int behind) {
        gathered.length = 0;
        return gatherFile(k) && gatherFile(behind) && pack(list.rows[k] + list.rows[behind], gathered);
    }

    private boolean gatherFile(int k) {
        openRows(k);
        return gathered.putRow(disk.bytes, teller.at, teller.limit - teller.at);
    }

    private boolean sameForm(int k, int other) {
        int subject = list.owner[k];
        return forms.isSame(schemas.rootOf(subject, list.version[k]), schemas.rootOf(subject, list.version[other]));
    }

    /** Writes content as a new file behind all others: FINE, FULL or LOST. */
    private int storeFile(int subject, int version, int rows) {
        int first = list.room(content.length);
        if (first == NONE || list.length >= MOST_FILES) {
            return FULL;
        }
        if (!disk.writeFile(first, content)) {
            return losePower();
        }
        list.add(subject, version, first, content.length, rows);
        return writeList();
    }

    /** Writes content as the file that two others become: 1, FULL or LOST. */
    private int replaceBoth(int k, int behind) {
        int first = list.room(content.length);
        if (first == NONE) {
            return FULL;
        }
        if (!disk.writeFile(first, content)) {
            return losePower();
        }
        list.merge(k, behind, first, content.length);
        int done = writeList();
        return done == FINE ? 1 : done;
    }

    private int writeList() {
        return list.writeTo(disk) ? FINE : losePower();
    }

    private int losePower() {
        down = true;
        schemas.dropAll();
        list.length = 0;
        return LOST;
    }

    /** A row of bytes that grows up to a bound. */
    private static final class Bytes {
        final byte[] row;
        int length;

        Bytes(int most) {
            row = new byte[most];
            length = 0;
        }

        int at(int i) {
            return i < 0 || i >= length ? NONE : row[i] & 255;
        }

        boolean put(int b) {
            if (length >= row.length) {
                return false;
            }
            row[length] = (byte) b;
            length++;
            return true;
        }

        boolean putZeros(int n) {
            boolean done = true;
            for (int i = 0; i < n; i++) {
                done = put(0);
            }
            return done;
        }

        boolean putRow(byte[] from, int at, int n) {
            if (at < 0 || n < 0 || n > from.length - at || n > row.length - length) {
                return false;
            }
            System.arraycopy(from, at, row, length, n);
            length += n;
            return true;
        }

        boolean putWord(String word) {
            boolean done = true;
            for (int i = 0; i < word.length(); i++) {
                done = put(word.charAt(i));
            }
            return done;
        }

        /** The lowest bytes of a number, highest one first. */
        void putNumber(long n, int bytes) {
            for (int i = bytes - 1; i >= 0; i--) {
                put((int) (n >>> (8 * i)));
            }
        }

        boolean putVarint(long v) {
            long rest = (v << 1) ^ (v >> 63);
            for (int i = 0; i < 10; i++) {
                boolean isLast = (rest & ~127L) == 0;
                if (!put((int) (rest & 127) | (isLast ? 0 : 128))) {
                    return false;
                }
                if (isLast) {
                    return true;
                }
                rest >>>= 7;
            }
            return true;
        }

        static int varintBytes(long v) {
            long rest = (v << 1) ^ (v >> 63);
            int n = 1;
            for (int i = 1; i < 10 && (rest & ~127L) != 0; i++) {
                rest >>>= 7;
                n++;
            }
            return n;
        }

        /** Puts a varint before what stands from a place on. */
        void insertVarint(int at, long v) {
            int n = varintBytes(v);
            if (at < 0 || at > length || n > row.length - length) {
                return;
            }
            int grown = length + n;
            System.arraycopy(row, at, row, at + n, length - at);
            length = at;
            putVarint(v);
            length = grown;
        }

        boolean isSame(Bytes other) {
            if (length != other.length) {
                return false;
            }
            for (int i = 0; i < length; i++) {
                if (row[i] != other.row[i]) {
                    return false;
                }
            }
            return true;
        }
    }

    /** The value that a text tells, as a tree in rows; FAULT 1. */
    private static final class Text {
        static final int OBJECT = 0, LIST = 1, STRING = 2, NUMBER = 3, TRUE = 4, FALSE = 5, NULL = 6;
        private static final int MOST_NESTED = 24;

        // One of each for every value. Each has a first byte of its own, so there are no more than bytes.
        final int[] kind = new int[MOST_BYTES];
        final int[] begin = new int[MOST_BYTES];
        /** The first value inside (an object has strings and values in turn), or where a string's bytes begin. */
        final int[] inner = new int[MOST_BYTES];
        /** How many values there are inside, or bytes. */
        final int[] extent = new int[MOST_BYTES];
        final int[] next = new int[MOST_BYTES];
        final long[] number = new long[MOST_BYTES];
        final Bytes told = new Bytes(MOST_BYTES);
        int values;
        int root;
        int valueEnd;
        int place;
        private byte[] source = told.row;
        private int from;
        private int length;
        private int at;

        /** Reads a text to root, or NONE there with a place. */
        void parse(byte[] bytes, int first, int n) {
            source = bytes;
            from = first;
            length = Math.min(n, MOST_BYTES);
            at = 0;
            values = 0;
            told.length = 0;
            place = NONE;
            root = value(0);
            valueEnd = at;
            skipBlanks();
            if (root != NONE && at < length) {
                root = failHere();
            }
        }

        /** The value of an object's member, or NONE. */
        int member(int v, String word) {
            int key = inner[v];
            for (int i = 0; i < extent[v] && key != NONE; i += 2) {
                if (tells(key, word)) {
                    return next[key];
                }
                key = next[next[key]];
            }
            return NONE;
        }

        /** The value of the member whose string is in another row of bytes, or NONE. */
        int memberNamed(int v, byte[] bytes, int first, int n) {
            int key = inner[v];
            for (int i = 0; i < extent[v] && key != NONE; i += 2) {
                if (tellsBytes(key, bytes, first, n)) {
                    return next[key];
                }
                key = next[next[key]];
            }
            return NONE;
        }

        boolean tells(int v, String word) {
            if (kind[v] != STRING || extent[v] != word.length()) {
                return false;
            }
            for (int i = 0; i < extent[v]; i++) {
                if ((told.row[inner[v] + i] & 255) != word.charAt(i)) {
                    return false;
                }
            }
            return true;
        }

        boolean tellsBytes(int v, byte[] bytes, int first, int n) {
            if (kind[v] != STRING || extent[v] != n) {
                return false;
            }
            for (int i = 0; i < n; i++) {
                if (told.row[inner[v] + i] != bytes[first + i]) {
                    return false;
                }
            }
            return true;
        }

        private int failAt(int where) {
            place = where;
            return NONE;
        }

        private int failHere() {
            place = at;
            return NONE;
        }

        private int peek() {
            return at < length ? source[from + at] & 255 : NONE;
        }

        private void skipBlanks() {
            while (at < length && isBlank(peek())) {
                at++;
            }
        }

        private static boolean isBlank(int b) {
            return b == 9 || b == 10 || b == 13 || b == 32;
        }

        private static boolean isDigit(int b) {
            return b >= '0' && b <= '9';
        }

        private int add(int kindOfValue) {
            int v = values;
            values++;
            kind[v] = kindOfValue;
            begin[v] = at;
            inner[v] = NONE;
            extent[v] = 0;
            next[v] = NONE;
            return v;
        }

        /** Puts a value behind the last one inside another. */
        private int link(int outer, int last, int v) {
            if (last == NONE) {
                inner[outer] = v;
            } else {
                next[last] = v;
            }
            extent[outer]++;
            return v;
        }

        private int value(int depth) {
            skipBlanks();
            int b = peek();
            switch (b) {
                case '{':
                    return object(depth);
                case '[':
                    return listOfValues(depth);
                case '"':
                    return string();
                case 't':
                    return word("true", TRUE);
                case 'f':
                    return word("false", FALSE);
                case 'n':
                    return word("null", NULL);
                default:
                    return b == '-' || isDigit(b) ? numberOfDigits() : failHere();
            }
        }

        private int object(int depth) {
            if (depth >= MOST_NESTED) {
                return failHere();
            }
            int v = add(OBJECT);
            at++;
            skipBlanks();
            if (peek() == '}') {
                at++;
                return v;
            }
            int last = NONE;
            for (int n = 0; n < MOST_BYTES; n++) {
                last = memberBehind(v, last, depth);
                if (last == NONE) {
                    return NONE;
                }
                int b = separator('}');
                if (b != ',') {
                    return b == NONE ? NONE : v;
                }
            }
            return failHere();
        }

        /** Reads a member of an object: its value, or NONE. */
        private int memberBehind(int v, int last, int depth) {
            skipBlanks();
            if (peek() != '"') {
                return failHere();
            }
            int key = string();
            if (key == NONE) {
                return NONE;
            }
            if (memberNamed(v, told.row, inner[key], extent[key]) != NONE) {
                return failAt(begin[key]);
            }
            skipBlanks();
            if (peek() != ':') {
                return failHere();
            }
            at++;
            int held = value(depth + 1);
            if (held == NONE) {
                return NONE;
            }
            return link(v, link(v, last, key), held);
        }

        private int listOfValues(int depth) {
            if (depth >= MOST_NESTED) {
                return failHere();
            }
            int v = add(LIST);
            at++;
            skipBlanks();
            if (peek() == ']') {
                at++;
                return v;
            }
            int last = NONE;
            for (int n = 0; n < MOST_BYTES; n++) {
                int item = value(depth + 1);
                if (item == NONE) {
                    return NONE;
                }
                last = link(v, last, item);
                int b = separator(']');
                if (b != ',') {
                    return b == NONE ? NONE : v;
                }
            }
            return failHere();
        }

        /** A comma or what closes, whichever is next; NONE if neither is. */
        private int separator(int closing) {
            skipBlanks();
            int b = peek();
            if (b != ',' && b != closing) {
                return failHere();
            }
            at++;
            return b;
        }

        private int word(String letters, int kindOfValue) {
            int v = add(kindOfValue);
            for (int i = 0; i < letters.length(); i++) {
                if (peek() != letters.charAt(i)) {
                    return failHere();
                }
                at++;
            }
            return v;
        }

        private int string() {
            int v = add(STRING);
            inner[v] = told.length;
            at++;
            while (at < length) {
                int b = peek();
                if (b == '"') {
                    at++;
                    extent[v] = told.length - inner[v];
                    return v;
                }
                if (b < 32 || b > 126) {
                    return failHere();
                }
                int byteTold = b == '\\' ? escape() : b;
                if (byteTold == NONE) {
                    return NONE;
                }
                told.put(byteTold);
                at++;
            }
            return failHere();
        }

        /** The byte that an escape tells, at its last byte then, or NONE. */
        private int escape() {
            int first = at;
            at++;
            switch (peek()) {
                case '"':
                    return '"';
                case '\\':
                    return '\\';
                case '/':
                    return '/';
                case 'b':
                    return 8;
                case 'f':
                    return 12;
                case 'n':
                    return 10;
                case 'r':
                    return 13;
                case 't':
                    return 9;
                case 'u':
                    return fourDigits(first);
                default:
                    return failHere();
            }
        }

        private int fourDigits(int first) {
            int n = 0;
            for (int i = 0; i < 4; i++) {
                at++;
                int digit = hexDigit(peek());
                if (digit == NONE) {
                    return failHere();
                }
                n = n * 16 + digit;
            }
            return n > 255 ? failAt(first) : n;
        }

        private static int hexDigit(int b) {
            if (b >= '0' && b <= '9') {
                return b - '0';
            }
            if (b >= 'a' && b <= 'f') {
                return b - 'a' + 10;
            }
            return b >= 'A' && b <= 'F' ? b - 'A' + 10 : NONE;
        }

        private int numberOfDigits() {
            int v = add(NUMBER);
            boolean isNegative = peek() == '-';
            if (isNegative) {
                at++;
            }
            if (!isDigit(peek())) {
                return failHere();
            }
            int most = peek() == '0' ? 1 : MOST_BYTES;
            // Counted downwards: below 0 there is one number more.
            long n = 0;
            boolean isWithin = true;
            for (int i = 0; i < most && isDigit(peek()); i++) {
                int digit = peek() - '0';
                isWithin = isWithin && n >= (Long.MIN_VALUE + digit) / 10;
                n = n * 10 - digit;
                at++;
            }
            if (!isWithin || !isNegative && n == Long.MIN_VALUE) {
                return failAt(begin[v]);
            }
            number[v] = isNegative ? n : -n;
            return v;
        }
    }

    /** All schemas that are known, in rows: those of the versions, and behind them that of the text just read. */
    private static final class Schemas {
        static final int NULL = 0, BOOLEAN = 1, INT = 2, LONG = 3, BYTES = 4, STRING = 5;
        static final int ARRAY = 6, MAP = 7, UNION = 8, FIXED = 9, ENUM = 10, RECORD = 11, KINDS = 12;
        static final int WORDS = 6;
        static final int MOST_LOOKED_AT = 128;
        private static final int MOST_TEXTS = MOST_FILES + 1;
        private static final int STORED_BYTES = (BLOCKS - FIRST_FILE_BLOCK) * BLOCK_BYTES;
        private static final int MOST_SCHEMAS = WORDS + MOST_TEXTS * MOST_LOOKED_AT;
        // A stored text has four bytes at least for each part ("A", with its comma), the tape, before it
        // has been looked at to its end, two.
        private static final int MOST_PARTS = STORED_BYTES / 4 + MOST_BYTES / 2;
        // No byte of a text makes more than two of names and defaults (0 in a union does make two).
        private static final int MOST_POOL = 2 * (STORED_BYTES + MOST_BYTES);

        // One of each for every schema but the names that stand for one: the first six are the six words'.
        final int[] kind = new int[MOST_SCHEMAS];
        /** Where in the pool its name is. */
        final int[] name = new int[MOST_SCHEMAS];
        final int[] part = new int[MOST_SCHEMAS];
        final int[] parts = new int[MOST_SCHEMAS];
        /** The schema of its items, its size, or the symbol that is its default. */
        final int[] extra = new int[MOST_SCHEMAS];
        // One of each for every branch, symbol and field.
        final int[] partName = new int[MOST_PARTS];
        final int[] partSchema = new int[MOST_PARTS];
        final int[] partDefault = new int[MOST_PARTS];
        final int[] partDefaultBytes = new int[MOST_PARTS];
        /** Names, each behind its length, and the defaults' bytes. */
        final Bytes pool = new Bytes(MOST_POOL);
        final int[] versions = new int[SUBJECTS];
        int base;
        private final int[] roots = new int[SUBJECTS * MOST_VERSIONS];
        private final int[] bases = new int[SUBJECTS * MOST_VERSIONS];
        private int schemasUsed;
        private int partsUsed;
        private int basePart;
        private int basePool;

        Schemas() {
            for (int i = 0; i < WORDS; i++) {
                kind[i] = i;
                name[i] = NONE;
            }
            schemasUsed = WORDS;
            base = WORDS;
        }

        static String wordOf(int kindOfSchema) {
            switch (kindOfSchema) {
                case NULL:
                    return "null";
                case BOOLEAN:
                    return "boolean";
                case INT:
                    return "int";
                case LONG:
                    return "long";
                case BYTES:
                    return "bytes";
                case STRING:
                    return "string";
                case ARRAY:
                    return "array";
                case MAP:
                    return "map";
                case FIXED:
                    return "fixed";
                case ENUM:
                    return "enum";
                case RECORD:
                    return "record";
                default:
                    return "";
            }
        }

        /** What is added from here on goes again with drop(), unless keep() comes first. */
        void open() {
            base = schemasUsed;
            basePart = partsUsed;
            basePool = pool.length;
        }

        void drop() {
            schemasUsed = base;
            partsUsed = basePart;
            pool.length = basePool;
        }

        void dropAll() {
            base = WORDS;
            basePart = 0;
            basePool = 0;
            drop();
            for (int i = 0; i < SUBJECTS; i++) {
                versions[i] = 0;
            }
        }

        void keep(int subject, int root) {
            int version = versions[subject];
            if (version >= MOST_VERSIONS) {
                return;
            }
            roots[subject * MOST_VERSIONS + version] = root;
            bases[subject * MOST_VERSIONS + version] = base;
            versions[subject]++;
            open();
        }

        int rootOf(int subject, int version) {
            return roots[subject * MOST_VERSIONS + version];
        }

        int baseOf(int subject, int version) {
            return bases[subject * MOST_VERSIONS + version];
        }

        /** A new schema, without parts as yet; NONE if there is no room. */
        int add(int kindOfSchema) {
            int s = schemasUsed;
            if (s >= MOST_SCHEMAS) {
                return NONE;
            }
            schemasUsed++;
            kind[s] = kindOfSchema;
            name[s] = NONE;
            part[s] = partsUsed;
            parts[s] = 0;
            extra[s] = NONE;
            return s;
        }

        /** Room for all parts of a schema at once, so that those of the schemas inside it come behind them. */
        boolean addParts(int s, int n) {
            if (n > MOST_PARTS - partsUsed) {
                return false;
            }
            part[s] = partsUsed;
            parts[s] = n;
            for (int p = partsUsed; p < partsUsed + n; p++) {
                partName[p] = NONE;
                partSchema[p] = NONE;
                partDefault[p] = NONE;
                partDefaultBytes[p] = 0;
            }
            partsUsed += n;
            return true;
        }

        /** Where in the pool a string is now as a name. */
        int addName(Text text, int v) {
            int where = pool.length;
            pool.put(text.extent[v]);
            pool.putRow(text.told.row, text.inner[v], text.extent[v]);
            return where;
        }

        int memberNamed(Text text, int v, int where) {
            return text.memberNamed(v, pool.row, where + 1, pool.row[where]);
        }

        boolean isSameName(int where, int other) {
            if (where == NONE || other == NONE) {
                return false;
            }
            // The lengths stand before the names: names of two lengths differ there.
            int n = pool.row[where];
            for (int i = 0; i <= n; i++) {
                if (pool.row[where + i] != pool.row[other + i]) {
                    return false;
                }
            }
            return true;
        }

        /** The schema with a name that the text being read has defined, or NONE. */
        int defined(Text text, int v) {
            for (int s = base; s < schemasUsed; s++) {
                if (name[s] != NONE && text.tellsBytes(v, pool.row, name[s] + 1, pool.row[name[s]])) {
                    return s;
                }
            }
            return NONE;
        }

        /** Which of a schema's first n parts a string of a text is, or NONE. */
        int partTold(int s, int n, Text text, int v) {
            for (int i = 0; i < n; i++) {
                int where = partName[part[s] + i];
                if (where != NONE && text.tellsBytes(v, pool.row, where + 1, pool.row[where])) {
                    return i;
                }
            }
            return NONE;
        }

        /** Which symbol or field of a schema has the name of another one's part, or NONE. */
        int partLike(int s, int otherPart) {
            for (int i = 0; i < parts[s]; i++) {
                if (isSameName(partName[part[s] + i], partName[otherPart])) {
                    return i;
                }
            }
            return NONE;
        }

        int partSchemaOf(int s, int i) {
            return partSchema[part[s] + i];
        }
    }

    /** Makes a schema of a text: FAULTS 1 to 14. */
    private static final class SchemaReader {
        private static final int MOST_BRANCHES = 16;
        private static final int MOST_SYMBOLS = 32;
        private static final int MOST_NAME = 32;
        private static final int MOST_SIZE = 64;

        int fault;
        int place;
        private final Text text;
        private final Schemas schemas;
        private final Defaults defaults;
        private int lookedAt;

        SchemaReader(Text textRead, Schemas schemasMade) {
            text = textRead;
            schemas = schemasMade;
            defaults = new Defaults(textRead, schemasMade);
            fault = 0;
            place = NONE;
        }

        /** The schema of the text that was parsed, added to the schemas and open there; or NONE with a fault. */
        int readSchema() {
            schemas.open();
            defaults.forget();
            lookedAt = 0;
            fault = 0;
            place = NONE;
            if (text.root == NONE) {
                fault = 1;
                place = text.place;
                return NONE;
            }
            int root = schemaOf(text.root, 0, false);
            if (root == NONE) {
                return NONE;
            }
            int misfit = defaults.take();
            return misfit == NONE ? root : fail(12, misfit);
        }

        private int fail(int number, int v) {
            fault = number;
            place = text.begin[v];
            return NONE;
        }

        private int schemaOf(int v, int depth, boolean isBranch) {
            if (lookedAt >= Schemas.MOST_LOOKED_AT) {
                return fail(13, v);
            }
            lookedAt++;
            if (depth >= MOST_SCHEMA_DEPTH) {
                return fail(14, v);
            }
            switch (text.kind[v]) {
                case Text.STRING:
                    return known(v);
                case Text.LIST:
                    return isBranch ? fail(4, v) : union(v, depth);
                case Text.OBJECT:
                    return object(v, depth);
                default:
                    return fail(2, v);
            }
        }

        /** One of the six words, or a name that is defined. */
        private int known(int v) {
            for (int s = 0; s < Schemas.WORDS; s++) {
                if (text.tells(v, Schemas.wordOf(s))) {
                    return s;
                }
            }
            int s = schemas.defined(text, v);
            return s == NONE ? fail(3, v) : s;
        }

        private int union(int v, int depth) {
            int n = text.extent[v];
            if (n < 1 || n > MOST_BRANCHES) {
                return fail(5, v);
            }
            int s = add(Schemas.UNION, v, n);
            int branch = text.inner[v];
            for (int i = 0; s != NONE && i < n; i++) {
                int b = schemaOf(branch, depth + 1, true);
                if (b == NONE) {
                    return NONE;
                }
                if (hasBranchAs(s, i, b)) {
                    return fail(6, branch);
                }
                schemas.partSchema[schemas.part[s] + i] = b;
                branch = text.next[branch];
            }
            return s;
        }

        /** A new schema with its parts; the 13th fault stands for what the bounds of the text rule out. */
        private int add(int kind, int v, int parts) {
            int s = schemas.add(kind);
            return s != NONE && schemas.addParts(s, parts) ? s : fail(13, v);
        }

        /** Names are told apart by their schemas: a text defines each but once. */
        private boolean hasBranchAs(int s, int n, int branch) {
            int kind = schemas.kind[branch];
            for (int i = 0; i < n; i++) {
                int other = schemas.partSchemaOf(s, i);
                boolean isRow = kind == Schemas.ARRAY || kind == Schemas.MAP;
                if (other == branch || isRow && schemas.kind[other] == kind) {
                    return true;
                }
            }
            return false;
        }

        private int object(int v, int depth) {
            int type = text.member(v, "type");
            if (type == NONE || text.kind[type] != Text.STRING) {
                return fail(7, v);
            }
            int kind = kindTold(type);
            switch (kind) {
                case Schemas.ARRAY:
                    return collection(v, kind, "items", depth);
                case Schemas.MAP:
                    return collection(v, kind, "values", depth);
                case Schemas.FIXED:
                case Schemas.ENUM:
                case Schemas.RECORD:
                    return named(v, kind, depth);
                default:
                    return known(type);
            }
        }

        /** The kind that has a word of its own, or NONE. */
        private int kindTold(int v) {
            for (int kind = 0; kind < Schemas.KINDS; kind++) {
                if (kind != Schemas.UNION && text.tells(v, Schemas.wordOf(kind))) {
                    return kind;
                }
            }
            return NONE;
        }

        private int collection(int v, int kind, String word, int depth) {
            int items = text.member(v, word);
            if (items == NONE) {
                return fail(8, v);
            }
            int s = add(kind, v, 0);
            int item = s == NONE ? NONE : schemaOf(items, depth + 1, false);
            if (item == NONE) {
                return NONE;
            }
            schemas.extra[s] = item;
            return s;
        }

        private int named(int v, int kind, int depth) {
            int name = text.member(v, "name");
            if (name == NONE || text.kind[name] != Text.STRING) {
                return fail(8, v);
            }
            if (!isName(name) || kindTold(name) != NONE || schemas.defined(text, name) != NONE) {
                return fail(9, name);
            }
            int s = add(kind, v, 0);
            if (s == NONE) {
                return NONE;
            }
            schemas.name[s] = schemas.addName(text, name);
            switch (kind) {
                case Schemas.FIXED:
                    return fixed(v, s);
                case Schemas.ENUM:
                    return symbols(v, s);
                default:
                    return fields(v, s, depth);
            }
        }

        private boolean isName(int v) {
            int n = text.extent[v];
            if (text.kind[v] != Text.STRING || n < 1 || n > MOST_NAME) {
                return false;
            }
            for (int i = 0; i < n; i++) {
                int b = text.told.at(text.inner[v] + i);
                boolean isLetter = b >= 'a' && b <= 'z' || b >= 'A' && b <= 'Z' || b == '_';
                boolean isDigit = b >= '0' && b <= '9';
                if (!isLetter && (!isDigit || i == 0)) {
                    return false;
                }
            }
            return true;
        }

        private int fixed(int v, int s) {
            int n = text.member(v, "size");
            if (n == NONE) {
                return fail(8, v);
            }
            if (text.kind[n] != Text.NUMBER || text.number[n] < 0 || text.number[n] > MOST_SIZE) {
                return fail(10, n);
            }
            schemas.extra[s] = (int) text.number[n];
            return s;
        }

        private int symbols(int v, int s) {
            int all = text.member(v, "symbols");
            if (all == NONE) {
                return fail(8, v);
            }
            int n = text.extent[all];
            if (text.kind[all] != Text.LIST || n < 1 || n > MOST_SYMBOLS) {
                return fail(11, all);
            }
            if (!schemas.addParts(s, n)) {
                return fail(13, v);
            }
            int symbol = text.inner[all];
            for (int i = 0; i < n; i++) {
                if (!isName(symbol) || schemas.partTold(s, i, text, symbol) != NONE) {
                    return fail(11, symbol);
                }
                schemas.partName[schemas.part[s] + i] = schemas.addName(text, symbol);
                symbol = text.next[symbol];
            }
            return defaultSymbol(v, s);
        }

        private int defaultSymbol(int v, int s) {
            int symbol = text.member(v, "default");
            if (symbol == NONE) {
                return s;
            }
            int i = schemas.partTold(s, schemas.parts[s], text, symbol);
            if (i == NONE) {
                return fail(12, symbol);
            }
            schemas.extra[s] = i;
            return s;
        }

        private int fields(int v, int s, int depth) {
            int all = text.member(v, "fields");
            if (all == NONE) {
                return fail(8, v);
            }
            int n = text.extent[all];
            if (text.kind[all] != Text.LIST || n > MOST_FIELDS) {
                return fail(11, all);
            }
            if (!schemas.addParts(s, n)) {
                return fail(13, v);
            }
            int field = text.inner[all];
            for (int i = 0; i < n; i++) {
                if (!isField(field, s, i, depth)) {
                    return NONE;
                }
                field = text.next[field];
            }
            return s;
        }

        private boolean isField(int v, int s, int i, int depth) {
            if (text.kind[v] != Text.OBJECT) {
                return fail(11, v) != NONE;
            }
            int name = text.member(v, "name");
            if (name == NONE || text.kind[name] != Text.STRING) {
                return fail(8, v) != NONE;
            }
            if (!isName(name) || schemas.partTold(s, i, text, name) != NONE) {
                return fail(9, name) != NONE;
            }
            int type = text.member(v, "type");
            if (type == NONE) {
                return fail(8, v) != NONE;
            }
            int p = schemas.part[s] + i;
            schemas.partName[p] = schemas.addName(text, name);
            schemas.partSchema[p] = schemaOf(type, depth + 1, false);
            if (schemas.partSchema[p] == NONE) {
                return false;
            }
            defaults.add(p, text.member(v, "default"));
            return true;
        }
    }

    /** The defaults of a text's fields, which wait until all its schemas are there. */
    private static final class Defaults {
        // As deep as values lie in one another: 24 objects and lists, and what is in them.
        private static final int MOST_VALUE_DEPTH = 25;

        private final Text text;
        private final Schemas schemas;
        private final int[] waitingValue = new int[Schemas.MOST_LOOKED_AT];
        private final int[] waitingPart = new int[Schemas.MOST_LOOKED_AT];
        private int waiting;

        Defaults(Text textRead, Schemas schemasMade) {
            text = textRead;
            schemas = schemasMade;
        }

        void forget() {
            waiting = 0;
        }

        void add(int part, int v) {
            if (v == NONE || waiting >= waitingValue.length) {
                return;
            }
            waitingPart[waiting] = part;
            waitingValue[waiting] = v;
            waiting++;
        }

        /** The first value that does not fit, or NONE: then all are bytes in the pool. */
        int take() {
            for (int i = 0; i < waiting; i++) {
                int p = waitingPart[i];
                int misfit = misfit(waitingValue[i], schemas.partSchema[p], 0);
                if (misfit != NONE) {
                    return misfit;
                }
                schemas.partDefault[p] = schemas.pool.length;
                write(waitingValue[i], schemas.partSchema[p], 0);
                schemas.partDefaultBytes[p] = schemas.pool.length - schemas.partDefault[p];
            }
            return NONE;
        }

        /** A union's default is of its first branch, which is no union. */
        private int firstBranch(int s) {
            return schemas.kind[s] == Schemas.UNION ? schemas.partSchemaOf(s, 0) : s;
        }

        private int misfit(int v, int schema, int depth) {
            int s = firstBranch(schema);
            if (depth > MOST_VALUE_DEPTH) {
                return v;
            }
            switch (schemas.kind[s]) {
                case Schemas.ARRAY:
                    return text.kind[v] == Text.LIST ? misfitInside(v, text.inner[v], s, depth) : v;
                case Schemas.MAP:
                    return text.kind[v] == Text.OBJECT ? misfitInside(v, text.inner[v], s, depth) : v;
                case Schemas.RECORD:
                    return text.kind[v] == Text.OBJECT ? misfitField(v, s, depth) : v;
                default:
                    return isFitting(v, s) ? NONE : v;
            }
        }

        private boolean isFitting(int v, int s) {
            int kind = text.kind[v];
            long n = text.number[v];
            switch (schemas.kind[s]) {
                case Schemas.NULL:
                    return kind == Text.NULL;
                case Schemas.BOOLEAN:
                    return kind == Text.TRUE || kind == Text.FALSE;
                case Schemas.INT:
                    return kind == Text.NUMBER && n == (int) n;
                case Schemas.LONG:
                    return kind == Text.NUMBER;
                case Schemas.FIXED:
                    return kind == Text.STRING && text.extent[v] == schemas.extra[s];
                case Schemas.ENUM:
                    return schemas.partTold(s, schemas.parts[s], text, v) != NONE;
                default:
                    return kind == Text.STRING;
            }
        }

        private int misfitInside(int v, int first, int s, int depth) {
            boolean isMap = schemas.kind[s] == Schemas.MAP;
            int item = first;
            for (int i = 0; i < text.extent[v] && item != NONE; i++) {
                if (!isMap || i % 2 == 1) {
                    int misfit = misfit(item, schemas.extra[s], depth + 1);
                    if (misfit != NONE) {
                        return misfit;
                    }
                }
                item = text.next[item];
            }
            return NONE;
        }

        private int misfitField(int v, int s, int depth) {
            for (int i = 0; i < schemas.parts[s]; i++) {
                int p = schemas.part[s] + i;
                int held = schemas.memberNamed(text, v, schemas.partName[p]);
                if (held == NONE) {
                    return v;
                }
                int misfit = misfit(held, schemas.partSchema[p], depth + 1);
                if (misfit != NONE) {
                    return misfit;
                }
            }
            return NONE;
        }

        /** Puts the datum that a fitting value tells behind the pool. */
        private void write(int v, int schema, int depth) {
            if (depth > MOST_VALUE_DEPTH) {
                return;
            }
            int s = firstBranch(schema);
            if (s != schema) {
                schemas.pool.putVarint(0);
            }
            switch (schemas.kind[s]) {
                case Schemas.NULL:
                    return;
                case Schemas.BOOLEAN:
                    schemas.pool.put(text.kind[v] == Text.TRUE ? 1 : 0);
                    return;
                case Schemas.INT:
                case Schemas.LONG:
                    schemas.pool.putVarint(text.number[v]);
                    return;
                case Schemas.BYTES:
                case Schemas.STRING:
                    writeString(v);
                    return;
                case Schemas.FIXED:
                    schemas.pool.putRow(text.told.row, text.inner[v], text.extent[v]);
                    return;
                case Schemas.ENUM:
                    schemas.pool.putVarint(schemas.partTold(s, schemas.parts[s], text, v));
                    return;
                case Schemas.RECORD:
                    writeFields(v, s, depth);
                    return;
                default:
                    writeItems(v, s, depth);
            }
        }

        private void writeString(int v) {
            schemas.pool.putVarint(text.extent[v]);
            schemas.pool.putRow(text.told.row, text.inner[v], text.extent[v]);
        }

        private void writeFields(int v, int s, int depth) {
            for (int i = 0; i < schemas.parts[s]; i++) {
                int p = schemas.part[s] + i;
                int held = schemas.memberNamed(text, v, schemas.partName[p]);
                if (held != NONE) {
                    write(held, schemas.partSchema[p], depth + 1);
                }
            }
        }

        private void writeItems(int v, int s, int depth) {
            boolean isMap = schemas.kind[s] == Schemas.MAP;
            int n = isMap ? text.extent[v] / 2 : text.extent[v];
            int item = text.inner[v];
            if (n > 0) {
                schemas.pool.putVarint(n);
            }
            for (int i = 0; i < n && item != NONE; i++) {
                if (isMap) {
                    writeString(item);
                    item = text.next[item];
                }
                write(item, schemas.extra[s], depth + 1);
                item = text.next[item];
            }
            schemas.pool.putVarint(0);
        }
    }

    /** Writes plain forms and their PRINTS. */
    private static final class PlainForm {
        private static final long PRINT_OF_NOTHING = 0xC15D213AA4D7A795L;

        private final Schemas schemas;
        private final Bytes one = new Bytes(MOST_BYTES);
        private final Bytes another = new Bytes(MOST_BYTES);
        private Bytes form = one;
        private int latest;

        PlainForm(Schemas allSchemas) {
            schemas = allSchemas;
        }

        long printOf(int s) {
            one.length = 0;
            writeTo(one, s);
            long p = PRINT_OF_NOTHING;
            for (int i = 0; i < one.length; i++) {
                p ^= one.at(i);
                // Eight steps of the whole do what T does for the lowest byte, and shift the others.
                for (int bit = 0; bit < 8; bit++) {
                    p = (p & 1) == 0 ? p >>> 1 : (p >>> 1) ^ PRINT_OF_NOTHING;
                }
            }
            return p;
        }

        boolean isSame(int s, int other) {
            one.length = 0;
            another.length = 0;
            writeTo(one, s);
            writeTo(another, other);
            return one.isSame(another);
        }

        void writeTo(Bytes into, int s) {
            form = into;
            latest = NONE;
            write(s, 0);
        }

        private void write(int s, int depth) {
            if (depth > MOST_SCHEMA_DEPTH) {
                return;
            }
            if (s < Schemas.WORDS) {
                quote(Schemas.wordOf(s));
                return;
            }
            // Schemas are numbered as they stand in their text, and so in the plain form: one that is
            // not behind the latest one stood before.
            if (s <= latest) {
                writeName(schemas.name[s]);
                return;
            }
            latest = s;
            switch (schemas.kind[s]) {
                case Schemas.ARRAY:
                    writeCollection(s, "\"items\":", depth);
                    return;
                case Schemas.MAP:
                    writeCollection(s, "\"values\":", depth);
                    return;
                case Schemas.UNION:
                    writeUnion(s, depth);
                    return;
                default:
                    writeNamed(s, depth);
            }
        }

        private void quote(String word) {
            form.put('"');
            form.putWord(word);
            form.put('"');
        }

        private void writeName(int where) {
            form.put('"');
            form.putRow(schemas.pool.row, where + 1, schemas.pool.at(where));
            form.put('"');
        }

        private void writeCollection(int s, String member, int depth) {
            form.putWord("{\"type\":");
            quote(Schemas.wordOf(schemas.kind[s]));
            form.put(',');
            form.putWord(member);
            write(schemas.extra[s], depth + 1);
            form.put('}');
        }

        private void writeUnion(int s, int depth) {
            form.put('[');
            for (int i = 0; i < schemas.parts[s]; i++) {
                if (i > 0) {
                    form.put(',');
                }
                write(schemas.partSchemaOf(s, i), depth + 1);
            }
            form.put(']');
        }

        private void writeNamed(int s, int depth) {
            form.putWord("{\"name\":");
            writeName(schemas.name[s]);
            form.putWord(",\"type\":");
            quote(Schemas.wordOf(schemas.kind[s]));
            switch (schemas.kind[s]) {
                case Schemas.FIXED:
                    form.putWord(",\"size\":");
                    writeSize(schemas.extra[s]);
                    break;
                case Schemas.ENUM:
                    form.putWord(",\"symbols\":[");
                    writeSymbols(s);
                    form.put(']');
                    break;
                default:
                    form.putWord(",\"fields\":[");
                    writeFields(s, depth);
                    form.put(']');
            }
            form.put('}');
        }

        private void writeSize(int n) {
            if (n >= 10) {
                form.put('0' + n / 10);
            }
            form.put('0' + n % 10);
        }

        private void writeSymbols(int s) {
            for (int i = 0; i < schemas.parts[s]; i++) {
                if (i > 0) {
                    form.put(',');
                }
                writeName(schemas.partName[schemas.part[s] + i]);
            }
        }

        private void writeFields(int s, int depth) {
            for (int i = 0; i < schemas.parts[s]; i++) {
                form.putWord(i > 0 ? ",{\"name\":" : "{\"name\":");
                writeName(schemas.partName[schemas.part[s] + i]);
                form.putWord(",\"type\":");
                write(schemas.partSchemaOf(s, i), depth + 1);
                form.put('}');
            }
        }
    }

    /** LOOKS at bytes as data, and makes them NORMAL. */
    private static final class Looker {
        private static final int MOST_DATA = 4000;

        /** What has been looked at since open(), as NORMAL: never more bytes than it had. */
        final Bytes normal = new Bytes(MOST_BYTES);
        int at;
        int fault;
        int place;
        long value;
        private final Schemas schemas;
        private byte[] source = normal.row;
        private int limit;
        private int data;
        private int items;

        Looker(Schemas allSchemas) {
            schemas = allSchemas;
        }

        void open(byte[] bytes, int first, int behind) {
            source = bytes;
            at = first;
            limit = behind;
            normal.length = 0;
        }

        /** One row, from where it is on: false with a fault. */
        boolean row(int s) {
            data = 0;
            items = 0;
            return datum(s, 0);
        }

        /** Reads a varint to value. */
        boolean varint() {
            int first = at;
            long pieces = 0;
            for (int i = 0; i < 10; i++) {
                if (at >= limit) {
                    return fail(1, limit);
                }
                int b = source[at] & 255;
                if (i == 9 && b > 1) {
                    return fail(2, first);
                }
                at++;
                pieces |= (long) (b & 127) << (7 * i);
                if (b < 128) {
                    value = (pieces >>> 1) ^ -(pieces & 1);
                    return true;
                }
            }
            return fail(2, first);
        }

        private boolean fail(int number, int where) {
            fault = number;
            place = where;
            return false;
        }

        private boolean datum(int s, int depth) {
            if (depth >= MOST_DEPTH) {
                return fail(7, at);
            }
            if (data >= MOST_DATA) {
                return fail(8, at);
            }
            data++;
            switch (schemas.kind[s]) {
                case Schemas.NULL:
                    return true;
                case Schemas.BOOLEAN:
                    return truth();
                case Schemas.INT:
                    return integer();
                case Schemas.LONG:
                    return varint() && normal.putVarint(value);
                case Schemas.BYTES:
                case Schemas.STRING:
                    return countedBytes();
                case Schemas.FIXED:
                    return manyBytes(schemas.extra[s]);
                case Schemas.ENUM:
                    return choice(5, schemas.parts[s]);
                case Schemas.UNION:
                    return choice(4, schemas.parts[s]) && datum(schemas.partSchemaOf(s, (int) value), depth + 1);
                case Schemas.RECORD:
                    return fields(s, depth);
                default:
                    return blocks(s, depth);
            }
        }

        private boolean truth() {
            if (at >= limit) {
                return fail(1, limit);
            }
            int b = source[at] & 255;
            if (b > 1) {
                return fail(3, at);
            }
            at++;
            return normal.put(b);
        }

        private boolean integer() {
            int first = at;
            if (!varint()) {
                return false;
            }
            return value == (int) value ? normal.putVarint(value) : fail(2, first);
        }

        private boolean countedBytes() {
            int first = at;
            if (!varint()) {
                return false;
            }
            if (value < 0) {
                return fail(6, first);
            }
            return normal.putVarint(value) && manyBytes(value);
        }

        private boolean manyBytes(long n) {
            if (n > limit - at) {
                return fail(1, limit);
            }
            int first = at;
            at += (int) n;
            return normal.putRow(source, first, (int) n);
        }

        /** A symbol or a branch, to value. */
        private boolean choice(int faultOfIt, int n) {
            int first = at;
            if (!varint()) {
                return false;
            }
            if (value < 0 || value >= n) {
                return fail(faultOfIt, first);
            }
            return normal.putVarint(value);
        }

        private boolean fields(int s, int depth) {
            for (int i = 0; i < schemas.parts[s]; i++) {
                if (!datum(schemas.partSchemaOf(s, i), depth + 1)) {
                    return false;
                }
            }
            return true;
        }

        private boolean blocks(int s, int depth) {
            int begin = normal.length;
            int total = 0;
            // Each block but the end has an item at least.
            for (int i = 0; i <= MOST_ITEMS; i++) {
                int first = at;
                if (!varint()) {
                    return false;
                }
                long n = value;
                if (n == 0) {
                    break;
                }
                if (n < -MOST_ITEMS || n > MOST_ITEMS || items + Math.abs(n) > MOST_ITEMS) {
                    return fail(6, first);
                }
                total += (int) Math.abs(n);
                items += (int) Math.abs(n);
                if (!block(s, n, depth)) {
                    return false;
                }
            }
            if (total > 0) {
                normal.insertVarint(begin, total);
            }
            return normal.put(0);
        }

        private boolean block(int s, long n, int depth) {
            int first = at;
            if (n < 0 && !varint()) {
                return false;
            }
            long bytesTold = value;
            int itemsBegin = at;
            for (int i = 0; i < Math.abs(n); i++) {
                boolean isKeyed = schemas.kind[s] != Schemas.MAP || countedBytes();
                if (!isKeyed || !datum(schemas.extra[s], depth + 1)) {
                    return false;
                }
            }
            return n > 0 || at - itemsBegin == bytesTold || fail(6, first);
        }
    }

    /** Which schemas match and which fit. */
    private static final class Matching {
        private static final int MOST_LOCAL = Schemas.WORDS + Schemas.MOST_LOOKED_AT;

        private final Schemas schemas;
        /** Which question each pair was asked in last. */
        private final int[] askedIn = new int[MOST_LOCAL * MOST_LOCAL];
        private final int[] pairs = new int[MOST_LOCAL * MOST_LOCAL];
        private int asked;
        private int question;
        private int writerBase;
        private int readerBase;

        Matching(Schemas allSchemas) {
            schemas = allSchemas;
        }

        /** The number of a union's first branch that matches, or NONE. */
        int branchFor(int w, int union) {
            for (int i = 0; i < schemas.parts[union]; i++) {
                if (isMatch(w, schemas.partSchemaOf(union, i), 0)) {
                    return i;
                }
            }
            return NONE;
        }

        private boolean isMatch(int w, int r, int depth) {
            if (schemas.kind[w] == Schemas.UNION || schemas.kind[r] == Schemas.UNION) {
                return true;
            }
            if (depth > MOST_SCHEMA_DEPTH || !isAlike(w, r)) {
                return false;
            }
            return !isRow(w) || isMatch(schemas.extra[w], schemas.extra[r], depth + 1);
        }

        private boolean isRow(int s) {
            return schemas.kind[s] == Schemas.ARRAY || schemas.kind[s] == Schemas.MAP;
        }

        /** Whether a schema can be told as another, neither a union, as far as what lies in them does not count. */
        boolean isAlike(int w, int r) {
            int kind = schemas.kind[w];
            if (kind < Schemas.WORDS) {
                return isAlikeWord(kind, schemas.kind[r]);
            }
            if (kind != schemas.kind[r]) {
                return false;
            }
            if (kind == Schemas.FIXED && schemas.extra[w] != schemas.extra[r]) {
                return false;
            }
            return isRow(w) || schemas.isSameName(schemas.name[w], schemas.name[r]);
        }

        private static boolean isAlikeWord(int w, int r) {
            boolean isBytes = w == Schemas.BYTES || w == Schemas.STRING;
            return w == r || w == Schemas.INT && r == Schemas.LONG
                    || isBytes && (r == Schemas.BYTES || r == Schemas.STRING);
        }

        /**
         * Whether a schema fits another. A pair fits if all pairs that it asks for do, and one that is
         * being asked for counts as fitting: so it is enough to look at each pair once, in any order.
         */
        boolean isFitting(int w, int baseOfWriter, int r, int baseOfReader) {
            writerBase = baseOfWriter;
            readerBase = baseOfReader;
            question++;
            asked = 0;
            ask(w, r);
            for (int i = 0; i < asked && i < pairs.length; i++) {
                int asWriter = schemaOf(pairs[i] / MOST_LOCAL, writerBase);
                int asReader = schemaOf(pairs[i] % MOST_LOCAL, readerBase);
                if (!isPairFitting(asWriter, asReader)) {
                    return false;
                }
            }
            return true;
        }

        private static int localOf(int s, int base) {
            return s < Schemas.WORDS ? s : s - base + Schemas.WORDS;
        }

        private static int schemaOf(int local, int base) {
            return local < Schemas.WORDS ? local : local - Schemas.WORDS + base;
        }

        private void ask(int w, int r) {
            int pair = localOf(w, writerBase) * MOST_LOCAL + localOf(r, readerBase);
            if (askedIn[pair] != question) {
                askedIn[pair] = question;
                pairs[asked] = pair;
                asked++;
            }
        }

        private boolean isPairFitting(int w, int r) {
            if (schemas.kind[w] == Schemas.UNION) {
                for (int i = 0; i < schemas.parts[w]; i++) {
                    ask(schemas.partSchemaOf(w, i), r);
                }
                return true;
            }
            if (schemas.kind[r] == Schemas.UNION) {
                int branch = branchFor(w, r);
                if (branch != NONE) {
                    ask(w, schemas.partSchemaOf(r, branch));
                }
                return branch != NONE;
            }
            if (!isAlike(w, r)) {
                return false;
            }
            if (isRow(w)) {
                ask(schemas.extra[w], schemas.extra[r]);
            }
            switch (schemas.kind[w]) {
                case Schemas.ENUM:
                    return schemas.extra[r] != NONE || hasAllSymbols(w, r);
                case Schemas.RECORD:
                    return askFields(w, r);
                default:
                    return true;
            }
        }

        private boolean hasAllSymbols(int w, int r) {
            for (int i = 0; i < schemas.parts[w]; i++) {
                if (schemas.partLike(r, schemas.part[w] + i) == NONE) {
                    return false;
                }
            }
            return true;
        }

        /** A default counts only where the writer has no such field: for else its datum is told. */
        private boolean askFields(int w, int r) {
            for (int i = 0; i < schemas.parts[r]; i++) {
                int p = schemas.part[r] + i;
                int field = schemas.partLike(w, p);
                if (field == NONE && schemas.partDefault[p] == NONE) {
                    return false;
                }
                if (field != NONE) {
                    ask(schemas.partSchemaOf(w, field), schemas.partSchema[p]);
                }
            }
            return true;
        }
    }

    /** Tells NORMAL data again as another schema. */
    private static final class Teller {
        int at;
        int limit;
        private final Schemas schemas;
        private final Matching matching;
        private final int[] fieldBegins = new int[MOST_DEPTH * MOST_FIELDS];
        private byte[] source;
        private Bytes sink;

        Teller(Schemas allSchemas, Matching matchingOfThem) {
            schemas = allSchemas;
            matching = matchingOfThem;
            sink = new Bytes(0);
            source = sink.row;
        }

        void open(byte[] bytes, int first, int behind) {
            source = bytes;
            at = first;
            limit = behind;
        }

        void skipRow(int s) {
            skip(s, 0);
        }

        /** Goes behind a datum: as it is NORMAL, nothing in it is looked at again. */
        private void skip(int s, int depth) {
            if (depth >= MOST_DEPTH) {
                return;
            }
            switch (schemas.kind[s]) {
                case Schemas.NULL:
                    return;
                case Schemas.BOOLEAN:
                    at++;
                    return;
                case Schemas.BYTES:
                case Schemas.STRING:
                    int n = (int) varint();
                    at += n;
                    return;
                case Schemas.FIXED:
                    at += schemas.extra[s];
                    return;
                case Schemas.UNION:
                    skip(branchTold(s), depth + 1);
                    return;
                case Schemas.RECORD:
                    for (int i = 0; i < schemas.parts[s]; i++) {
                        skip(schemas.partSchemaOf(s, i), depth + 1);
                    }
                    return;
                case Schemas.ARRAY:
                case Schemas.MAP:
                    skipItems(s, depth);
                    return;
                default:
                    varint();
            }
        }

        private void skipItems(int s, int depth) {
            long n = varint();
            for (int i = 0; i < n && i < MOST_ITEMS; i++) {
                if (schemas.kind[s] == Schemas.MAP) {
                    skip(Schemas.STRING, depth);
                }
                skip(schemas.extra[s], depth + 1);
            }
            if (n != 0) {
                varint();
            }
        }

        private long varint() {
            long pieces = 0;
            for (int i = 0; i < 10 && at < limit; i++) {
                int b = source[at] & 255;
                at++;
                pieces |= (long) (b & 127) << (7 * i);
                if (b < 128) {
                    break;
                }
            }
            return (pieces >>> 1) ^ -(pieces & 1);
        }

        private int branchTold(int union) {
            long branch = varint();
            boolean isThere = branch >= 0 && branch < schemas.parts[union];
            return isThere ? schemas.partSchemaOf(union, (int) branch) : Schemas.NULL;
        }

        /** Tells the row that comes next, and goes behind it: FINE, UNRESOLVED or FULL. */
        int tell(int w, int r, Bytes into) {
            sink = into;
            return datum(w, r, 0);
        }

        private int datum(int w, int reader, int depth) {
            if (depth >= MOST_DEPTH) {
                return UNRESOLVED;
            }
            if (schemas.kind[w] == Schemas.UNION) {
                return datum(branchTold(w), reader, depth + 1);
            }
            int r = reader;
            if (schemas.kind[reader] == Schemas.UNION) {
                int branch = matching.branchFor(w, reader);
                if (branch == NONE) {
                    return UNRESOLVED;
                }
                if (!sink.putVarint(branch)) {
                    return FULL;
                }
                r = schemas.partSchemaOf(reader, branch);
            }
            if (!matching.isAlike(w, r)) {
                return UNRESOLVED;
            }
            switch (schemas.kind[w]) {
                case Schemas.ENUM:
                    return symbol(w, r);
                case Schemas.RECORD:
                    return fields(w, r, depth);
                case Schemas.ARRAY:
                case Schemas.MAP:
                    return items(w, r, depth);
                default:
                    return asItIs(w);
            }
        }

        private int asItIs(int s) {
            int first = at;
            skip(s, 0);
            return sink.putRow(source, first, at - first) ? FINE : FULL;
        }

        private int symbol(int w, int r) {
            long symbol = varint();
            if (symbol < 0 || symbol >= schemas.parts[w]) {
                return UNRESOLVED;
            }
            int same = schemas.partLike(r, schemas.part[w] + (int) symbol);
            int told = same == NONE ? schemas.extra[r] : same;
            if (told == NONE) {
                return UNRESOLVED;
            }
            return sink.putVarint(told) ? FINE : FULL;
        }

        private int items(int w, int r, int depth) {
            long n = varint();
            if (!sink.putVarint(n)) {
                return FULL;
            }
            if (n == 0) {
                return FINE;
            }
            for (int i = 0; i < n && i < MOST_ITEMS; i++) {
                int told = schemas.kind[w] == Schemas.MAP ? asItIs(Schemas.STRING) : FINE;
                if (told == FINE) {
                    told = datum(schemas.extra[w], schemas.extra[r], depth + 1);
                }
                if (told != FINE) {
                    return told;
                }
            }
            varint();
            return sink.putVarint(0) ? FINE : FULL;
        }

        private int fields(int w, int r, int depth) {
            int begins = depth * MOST_FIELDS;
            for (int i = 0; i < schemas.parts[w]; i++) {
                fieldBegins[begins + i] = at;
                skip(schemas.partSchemaOf(w, i), depth + 1);
            }
            int behind = at;
            for (int i = 0; i < schemas.parts[r]; i++) {
                int p = schemas.part[r] + i;
                int field = schemas.partLike(w, p);
                int told;
                if (field == NONE) {
                    told = defaultOf(p);
                } else {
                    at = fieldBegins[begins + field];
                    told = datum(schemas.partSchemaOf(w, field), schemas.partSchema[p], depth + 1);
                }
                if (told != FINE) {
                    return told;
                }
            }
            at = behind;
            return FINE;
        }

        private int defaultOf(int p) {
            if (schemas.partDefault[p] == NONE) {
                return UNRESOLVED;
            }
            return sink.putRow(schemas.pool.row, schemas.partDefault[p], schemas.partDefaultBytes[p]) ? FINE : FULL;
        }
    }

    /** The blocks, and the power that may go as they are written. */
    private static final class Disk {
        final byte[] bytes = new byte[BLOCKS * BLOCK_BYTES];
        /** How many blocks are written whole before one is torn, or NONE. */
        int untilLoss = NONE;

        static int blocksOf(int n) {
            return Math.max(1, (n + BLOCK_BYTES - 1) / BLOCK_BYTES);
        }

        /** False when power went: then only half of a block is written, and none behind it. */
        boolean writeFile(int first, Bytes content) {
            for (int i = 0; i < blocksOf(content.length); i++) {
                if (!writeBlock(first + i, content, i * BLOCK_BYTES)) {
                    return false;
                }
            }
            return true;
        }

        boolean writeBlock(int block, Bytes content, int from) {
            boolean isTorn = untilLoss == 0;
            int written = isTorn ? BLOCK_BYTES / 2 : BLOCK_BYTES;
            for (int i = 0; i < written; i++) {
                bytes[block * BLOCK_BYTES + i] = (byte) Math.max(0, content.at(from + i));
            }
            if (isTorn) {
                untilLoss = NONE;
            } else if (untilLoss != NONE) {
                untilLoss--;
            }
            return !isTorn;
        }
    }

    /** The list of all files, in memory and in its block. */
    private static final class FileList {
        // The block: which list this is, how many files it has, six bytes for each, and which list this is once
        // more. Its second half has never held this number, and keeps an older one when the block is torn: so it
        // tells two then, whatever files there are. (A print would not do: two blocks can have the same.)
        private static final int TURN_BYTES = 4;
        private static final int FILES_AT = TURN_BYTES + 1;
        private static final int FILE_BYTES = 6;
        private static final int TURN_AGAIN_AT = BLOCK_BYTES - TURN_BYTES;

        final int[] owner = new int[MOST_FILES];
        final int[] version = new int[MOST_FILES];
        final int[] first = new int[MOST_FILES];
        final int[] wants = new int[MOST_FILES];
        /** NONE for a version's file. */
        final int[] rows = new int[MOST_FILES];
        int length;
        private int turn;
        private final Bytes block = new Bytes(BLOCK_BYTES);
        private final boolean[] isUsed = new boolean[BLOCKS];

        boolean isRowsOf(int k, int subject) {
            return owner[k] == subject && rows[k] != NONE;
        }

        int nextRowsOf(int subject, int from) {
            for (int k = from; k < length; k++) {
                if (isRowsOf(k, subject)) {
                    return k;
                }
            }
            return NONE;
        }

        int filesOf(int subject) {
            int n = 0;
            for (int k = 0; k < length; k++) {
                n += isRowsOf(k, subject) ? 1 : 0;
            }
            return n;
        }

        int rowsOf(int subject) {
            return rowsUpTo(subject, length);
        }

        /** How many rows the table of a file has before it. */
        int rowsBefore(int k) {
            return rowsUpTo(owner[k], k);
        }

        private int rowsUpTo(int subject, int behind) {
            int n = 0;
            for (int k = 0; k < behind; k++) {
                n += isRowsOf(k, subject) ? rows[k] : 0;
            }
            return n;
        }

        /** The file that has a row of a table, or NONE. */
        int fileOfRow(int subject, int i) {
            int before = 0;
            for (int k = 0; i >= 0 && k < length; k++) {
                if (isRowsOf(k, subject)) {
                    before += rows[k];
                    if (i < before) {
                        return k;
                    }
                }
            }
            return NONE;
        }

        /** The first block of the first place that is wide enough, or NONE. */
        int room(int bytes) {
            for (int b = 0; b < BLOCKS; b++) {
                isUsed[b] = b < FIRST_FILE_BLOCK;
            }
            for (int k = 0; k < length; k++) {
                int behind = Math.min(BLOCKS, first[k] + Disk.blocksOf(wants[k]));
                for (int b = first[k]; b < behind; b++) {
                    isUsed[b] = true;
                }
            }
            int free = 0;
            for (int b = 0; b < BLOCKS; b++) {
                free = isUsed[b] ? 0 : free + 1;
                if (free == Disk.blocksOf(bytes)) {
                    return b - free + 1;
                }
            }
            return NONE;
        }

        void add(int subject, int versionOfIt, int firstBlock, int bytes, int rowsOfIt) {
            if (length >= MOST_FILES) {
                return;
            }
            owner[length] = subject;
            version[length] = versionOfIt;
            first[length] = firstBlock;
            wants[length] = bytes;
            rows[length] = rowsOfIt;
            length++;
        }

        /** Two files become one, in the place of the first. */
        void merge(int k, int behind, int firstBlock, int bytes) {
            first[k] = firstBlock;
            wants[k] = bytes;
            rows[k] += rows[behind];
            remove(behind);
        }

        void removeRowsOf(int subject) {
            for (int k = length - 1; k >= 0; k--) {
                if (isRowsOf(k, subject)) {
                    remove(k);
                }
            }
        }

        private void remove(int k) {
            length--;
            for (int i = k; i < length; i++) {
                owner[i] = owner[i + 1];
                version[i] = version[i + 1];
                first[i] = first[i + 1];
                wants[i] = wants[i + 1];
                rows[i] = rows[i + 1];
            }
        }

        /** Writes the list over the older one of the two; false when power went. */
        boolean writeTo(Disk disk) {
            turn++;
            block.length = 0;
            block.putNumber(turn, TURN_BYTES);
            block.put(length);
            for (int k = 0; k < length; k++) {
                block.put(owner[k] * MOST_VERSIONS + version[k]);
                block.put(first[k]);
                block.putNumber(wants[k], 2);
                block.putNumber(Math.max(0, rows[k]), 2);
            }
            block.putZeros(TURN_AGAIN_AT - block.length);
            block.putNumber(turn, TURN_BYTES);
            return disk.writeBlock(turn % 2, block, 0);
        }

        /** Takes the newest list that is whole; an empty one if none is. */
        void readFrom(Disk disk) {
            int even = turnOf(disk, 0);
            int odd = turnOf(disk, 1);
            turn = Math.max(0, Math.max(even, odd));
            length = 0;
            if (turn > 0) {
                readFiles(disk.bytes, turn % 2 * BLOCK_BYTES);
            }
        }

        /** Which list a block holds, or NONE if it is not whole. */
        private static int turnOf(Disk disk, int block) {
            int from = block * BLOCK_BYTES;
            int number = number(disk.bytes, from, TURN_BYTES);
            return number == number(disk.bytes, from + TURN_AGAIN_AT, TURN_BYTES) ? number : NONE;
        }

        private void readFiles(byte[] bytes, int from) {
            int n = number(bytes, from + TURN_BYTES, 1);
            for (int k = 0; k < n && k < MOST_FILES; k++) {
                int at = from + FILES_AT + k * FILE_BYTES;
                int names = number(bytes, at, 1);
                int rowsOfIt = number(bytes, at + 4, 2);
                // No file of rows is without one.
                add(names / MOST_VERSIONS, names % MOST_VERSIONS, number(bytes, at + 1, 1), number(bytes, at + 2, 2),
                        rowsOfIt == 0 ? NONE : rowsOfIt);
            }
        }

        private static int number(byte[] bytes, int first, int n) {
            int number = 0;
            for (int i = 0; i < n; i++) {
                number = (number << 8) | (bytes[first + i] & 255);
            }
            return number;
        }
    }
}
