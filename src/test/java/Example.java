import java.nio.charset.StandardCharsets;

/** The example that README.md has. */
public final class Example {
    public static void main(String[] args) {
        RecordLake lake = new RecordLake();

        // A text becomes version 0 of subject 0.
        tape(lake, text("{'type':'record','name':'Cow','fields':[{'name':'age','type':'int'}]}"));
        System.out.println("register " + lake.register(0));

        // Two rows of that version come into its table: ages 7 and 8.
        tape(lake, new byte[] {14, 16});
        System.out.println("load " + lake.load(0, 0));

        // A later version has one field more; rows that lack it are told with its default.
        tape(lake, text("{'type':'record','name':'Cow','fields':[{'name':'age','type':'long'},"
                + "{'name':'calls','type':'string','default':'moo'}]}"));
        System.out.println("register " + lake.register(0));
        System.out.println("read " + lake.read(0, 1, 1) + ":" + out(lake));

        // A row that is not as its version says is not let in.
        tape(lake, new byte[] {14, 99});
        System.out.println("load " + lake.load(0, 1) + " at " + lake.place());

        // Power goes at the second block that is written, which is the list: what was not done has not been.
        lake.power(1);
        System.out.println("copy " + lake.copy(0, 0, 1) + ", files " + lake.files());
        System.out.println("start " + lake.start() + ", rows " + lake.count(0, 2));
        System.out.println("copy " + lake.copy(0, 0, 1) + ", rows " + lake.count(0, 2));
    }

    /** Puts bytes on the tape, which has just these then. The odd ones come first: so all 4096 can be used. */
    static void tape(RecordLake lake, byte[] bytes) {
        lake.end(0);
        int odd = bytes.length % 20;
        if (odd > 0) {
            feed(lake, bytes, 0);
            lake.end(odd);
        }
        for (int i = odd; i < bytes.length; i += 20) {
            feed(lake, bytes, i);
        }
    }

    /** Twenty bytes from a place on, with zeros for those that are not there. */
    static void feed(RecordLake lake, byte[] bytes, int from) {
        int[] numbers = new int[5];
        for (int i = 0; i < 20; i++) {
            int b = from + i < bytes.length ? bytes[from + i] & 255 : 0;
            numbers[i / 4] = numbers[i / 4] << 8 | b;
        }
        lake.feed(numbers[0], numbers[1], numbers[2], numbers[3], numbers[4]);
    }

    static byte[] text(String text) {
        return text.replace('\'', '"').getBytes(StandardCharsets.ISO_8859_1);
    }

    static String out(RecordLake lake) {
        StringBuilder bytes = new StringBuilder();
        for (int i = 0; i < lake.size(1); i++) {
            bytes.append(' ').append(lake.letter(i, 1));
        }
        return bytes.toString();
    }
}
