import java.util.Arrays;

/** Holds tapes of rows of one schema against what is due, each on a new object, by look() and by load(). */
final class RowAsker {
    private final Check check;
    private String schema = "";

    RowAsker(Check check) {
        this.check = check;
    }

    /** The tapes behind this are rows of a schema. */
    void as(String text) {
        schema = text;
        RecordLake lake = new RecordLake();
        check.same("register " + text, Lakes.register(lake, 0, text), 0);
    }

    private RecordLake lakeWith(byte[] tape) {
        RecordLake lake = new RecordLake();
        Lakes.register(lake, 0, schema);
        // A fault before, so that a place that has not been set can be seen.
        Lakes.tape(lake, "  ?");
        lake.schema();
        Lakes.tape(lake, tape);
        return lake;
    }

    void fault(int number, int place, int... tape) {
        fault(number, place, Lakes.bytes(tape));
    }

    void fault(int number, int place, byte[] tape) {
        answer(-number, place, tape);
    }

    /** EMPTY, and no place. */
    void empty(byte[] tape) {
        answer(RecordLake.EMPTY, RecordLake.NONE, tape);
    }

    private void answer(int due, int place, byte[] tape) {
        RecordLake lake = lakeWith(tape);
        check.same("look at " + shown(tape), lake.look(0, 0), due);
        check.same("place() of " + shown(tape), lake.place(), place);
        RecordLake other = lakeWith(tape);
        check.same("load of " + shown(tape), other.load(0, 0), due);
        check.same("its place()", other.place(), place);
        check.same("its tape", Check.thrownBy(() -> other.end(tape.length)), "nothing");
        check.same("files()", other.files(), 1);
    }

    void rows(int due, int... tape) {
        rows(due, Lakes.bytes(tape));
    }

    /** So many rows, short enough for a file. */
    void rows(int due, byte[] tape) {
        looked(due, tape);
        RecordLake lake = lakeWith(tape);
        check.same("load of " + shown(tape), lake.load(0, 0), due);
        check.same("its place()", lake.place(), RecordLake.NONE);
        check.argument("its tape is empty", () -> lake.end(1));
        check.same("count", lake.count(0, 2), due);
    }

    /** So many rows, whether a file can hold them or not. */
    void looked(int due, byte[] tape) {
        RecordLake lake = lakeWith(tape);
        check.same("look at " + shown(tape), lake.look(0, 0), due);
        check.same("place() of " + shown(tape), lake.place(), RecordLake.NONE);
        check.same("the tape stays", Check.thrownBy(() -> lake.end(tape.length)), "nothing");
    }

    /** A row, and what it is as NORMAL. */
    void normal(byte[] tape, byte[] due) {
        RecordLake lake = lakeWith(Lakes.join(tape, tape));
        check.same("load of " + shown(tape), lake.load(0, 0), 2);
        for (int i = 0; i < 2; i++) {
            check.same("read", lake.read(0, 0, i), due.length);
            check.same("NORMAL of " + shown(tape), Lakes.out(lake), Lakes.numbers(due));
        }
    }

    private static String shown(byte[] tape) {
        return tape.length > 40 ? Lakes.numbers(Arrays.copyOf(tape, 40)) + " .. (" + tape.length + ")" : Lakes.numbers(tape);
    }
}
