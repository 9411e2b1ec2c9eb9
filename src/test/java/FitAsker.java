/** Asks whether a schema fits another, by fits() and by register(). */
final class FitAsker {
    private final Check check;

    FitAsker(Check check) {
        this.check = check;
    }

    boolean fits(String w, String r) {
        RecordLake lake = new RecordLake();
        check.same("register " + w, Lakes.register(lake, 0, w), 0);
        check.same("register " + r, Lakes.register(lake, 1, r), 0);
        boolean fits = lake.fits(0, 0, 1, 0);
        // register holds it against the version before it just so.
        check.same("as a version behind it", Lakes.register(lake, 0, r), fits ? 1 : RecordLake.UNFIT);
        return fits;
    }

    void due(boolean due, String w, String r) {
        check.same(w + " fits " + r, fits(w, r) ? 1 : 0, due ? 1 : 0);
    }

    void yes(String w, String r) {
        due(true, w, r);
    }

    void no(String w, String r) {
        due(false, w, r);
    }
}
