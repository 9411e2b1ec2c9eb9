/** Holds texts against the fault that is due, each on a new object, by schema() and by register(). */
final class SchemaAsker {
    private final Check check;

    SchemaAsker(Check check) {
        this.check = check;
    }

    /** A text with a fault: the plain form has no bytes then, and the tape stays. */
    void fault(String text, int number, int place) {
        RecordLake lake = withPlainForm();
        Lakes.tape(lake, text);
        check.same("schema() of " + shown(text), lake.schema(), number);
        check.same("place() of " + shown(text), lake.place(), place);
        check.same("size(0) of " + shown(text), lake.size(0), 0);
        RecordLake other = withPlainForm();
        Lakes.tape(other, text);
        check.same("register() of " + shown(text), other.register(1), -number);
        check.same("its place()", other.place(), place);
        check.same("its size(0)", other.size(0), 0);
        check.same("its tape", Check.thrownBy(() -> other.end(text.length())), "nothing");
        check.same("files()", other.files(), 1);
    }

    private static RecordLake withPlainForm() {
        RecordLake lake = new RecordLake();
        Lakes.register(lake, 0, "\"int\"");
        return lake;
    }

    /** A text whose fault is at the first byte behind a mark, which is a tilde and goes from the text. */
    void marked(String text, int number) {
        int place = text.indexOf('~');
        fault(text.substring(0, place) + text.substring(place + 1), number, place);
    }

    void sound(String text) {
        RecordLake lake = new RecordLake();
        Lakes.tape(lake, text);
        check.same("schema() of " + shown(text), lake.schema(), 0);
        check.same("place() of " + shown(text), lake.place(), RecordLake.NONE);
        check.yes("size(0) of " + shown(text), lake.size(0) > 0);
        check.same("register() of " + shown(text), lake.register(1), 0);
        check.argument("the tape is empty", () -> lake.end(1));
    }

    void sound(String text, String plain) {
        sound(text);
        RecordLake lake = new RecordLake();
        Lakes.tape(lake, text);
        lake.schema();
        check.same("the plain form of " + shown(text), Lakes.plain(lake), plain);
    }

    private static String shown(String text) {
        return text.length() <= 200 ? text : text.substring(0, 200) + " .. (" + text.length() + ")";
    }
}
