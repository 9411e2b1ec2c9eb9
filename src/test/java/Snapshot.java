/** All that calls tell of the disk, its versions and its tables. (Taking one changes OUT.) */
final class Snapshot {
    private Snapshot() {
    }

    static String of(RecordLake lake) {
        if (lake.files() == RecordLake.DOWN) {
            return "DOWN";
        }
        StringBuilder all = new StringBuilder(files(lake));
        for (int s = 0; s < 4; s++) {
            all.append("\nsubject ").append(s);
            for (int what = 0; what < 3; what++) {
                all.append(' ').append(lake.count(s, what));
            }
            for (int v = 0; v < lake.count(s, 0); v++) {
                all.append("\n print ").append(Long.toHexString(lake.print(s, v)));
                rows(lake, s, v, all);
            }
        }
        return all.toString();
    }

    /** The list alone. */
    static String files(RecordLake lake) {
        StringBuilder all = new StringBuilder("files " + lake.files());
        for (int k = 0; k < lake.files(); k++) {
            all.append('\n').append(k).append(':');
            for (int what = 0; what < 5; what++) {
                all.append(' ').append(lake.file(k, what));
            }
        }
        return all.toString();
    }

    private static void rows(RecordLake lake, int subject, int version, StringBuilder all) {
        for (int i = 0; i < lake.count(subject, 2); i++) {
            all.append(i == 0 ? " rows " : ", ").append(lake.read(subject, version, i)).append(" bytes ").append(Lakes.out(lake));
        }
    }
}
