/** Promise 7: where the latest fault of schema, register, look or load was. */
public final class P07PlaceTest {
    public static void main(String[] args) {
        Check check = new Check();
        RecordLake lake = new RecordLake();
        Lakes.tape(lake, "   x");
        lake.schema();
        check.same("schema()'s", lake.place(), 3);
        Lakes.tape(lake, "\"int\"");
        check.same("a new tape changes nothing", lake.place(), 3);
        check.index("a call that throws", () -> lake.register(7));
        check.same("changes nothing", lake.place(), 3);
        check.same("register", lake.register(0), 0);
        check.same("register told none", lake.place(), RecordLake.NONE);
        Lakes.register(lake, 0, " 7");
        check.same("register's", lake.place(), 1);
        Lakes.tape(lake, Lakes.bytes(0, 0, 128));
        lake.look(0, 0);
        check.same("look's", lake.place(), 3);
        lake.end(2);
        lake.look(0, 0);
        check.same("look told none", lake.place(), RecordLake.NONE);
        check.same("load", Lakes.load(lake, 0, 0, 2, 255, 255, 255, 255, 255, 1), -2);
        check.same("load's", lake.place(), 1);
        others(check, lake);
        whileDown(check, lake);
        check.finish("P07PlaceTest");
    }

    private static void others(Check check, RecordLake lake) {
        lake.count(0, 0);
        lake.compact(0);
        lake.clear(0);
        lake.fits(0, 0, 0, 0);
        check.same("copy of no rows", lake.copy(0, 0, 0), RecordLake.EMPTY);
        check.same("other calls leave it", lake.place(), 1);
        check.same("load of nothing", Lakes.load(lake, 0, 0), RecordLake.EMPTY);
        check.same("EMPTY is no fault", lake.place(), RecordLake.NONE);
        Lakes.register(lake, 0, "?");
        check.same("place()", lake.place(), 0);
        check.same("UNFIT", Lakes.register(lake, 0, "\"string\""), RecordLake.UNFIT);
        check.same("UNFIT is none", lake.place(), RecordLake.NONE);
    }

    private static void whileDown(Check check, RecordLake lake) {
        Lakes.register(lake, 0, "    ?");
        lake.power(0);
        check.same("LOST", Lakes.load(lake, 0, 0, 2), RecordLake.LOST);
        check.same("LOST is no fault, but told none", lake.place(), RecordLake.NONE);
        Lakes.tape(lake, "  ?");
        lake.schema();
        check.same("schema()'s while DOWN", lake.place(), 2);
        lake.register(0);
        lake.look(0, 0);
        lake.load(0, 0);
        check.same("DOWN does not count", lake.place(), 2);
        lake.start();
        check.same("nor does start()", lake.place(), 2);
    }
}
