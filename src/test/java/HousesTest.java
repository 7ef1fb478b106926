/** Promises 1 to 5: a new object, mood, recall, houseOf, now. */
public final class HousesTest {
    private static final Due DUE = new Due();

    private static void newObject() {
        BeardHire x = new BeardHire();
        for (int h = 0; h < 6; h++) {
            DUE.is("1: houseOf(h, 0)", x.houseOf(h, 0), 100);
            DUE.is("1: houseOf(h, 1)", x.houseOf(h, 1), -1);
            DUE.is("1: houseOf(h, 2)", x.houseOf(h, 2), 0);
        }
        for (int what = 0; what < 5; what++) {
            DUE.is("1: now(what)", x.now(what), what == 1 ? 1 : 0);
        }
        for (int what = 0; what < 4; what++) {
            DUE.is("1: count(what)", x.count(what), 0);
        }
        for (int which = -1; which < 7; which++) {
            DUE.is("1: status(which)", x.status(which), 0);
        }
        for (int s = 0; s < 4; s++) {
            DUE.is("1: write(s, 0, 1)", x.write(s, 0, 1), Due.MISSING);
        }
        DUE.is("1: of(0, 0)", x.of(0, 0), Due.BEYOND);
        DUE.is("1: wearerOf(0, 0)", x.wearerOf(0, 0), Due.BEYOND);
        DUE.is("1: undo()", x.undo(), Due.NONE);
        DUE.is("1: tear()", x.tear(), 0);
        DUE.is("1: wipe()", x.wipe(), 0);
    }

    private static void mood() {
        BeardHire x = new BeardHire();
        for (int h = 0; h < 6; h++) {
            DUE.is("2: mood(h, h)", x.mood(h, h), 0);
        }
        for (int h = 0; h < 6; h++) {
            DUE.is("2: houseOf(h, 0)", x.houseOf(h, 0), 100 + h);
        }
        DUE.is("2: mood(2, 50)", x.mood(2, 50), 2);
        DUE.is("2: mood(2, -50)", x.mood(2, -50), 50);
        DUE.is("2: mood(2, 51)", x.mood(2, 51), Due.BEYOND);
        DUE.is("2: mood(2, -51)", x.mood(2, -51), Due.BEYOND);
        DUE.is("2: mood(2, least)", x.mood(2, Integer.MIN_VALUE), Due.BEYOND);
        DUE.is("2: mood(2, most)", x.mood(2, Integer.MAX_VALUE), Due.BEYOND);
        DUE.is("2: mood(-1, 0)", x.mood(-1, 0), Due.BEYOND);
        DUE.is("2: mood(6, 0)", x.mood(6, 0), Due.BEYOND);
        DUE.is("2: houseOf(2, 0)", x.houseOf(2, 0), 50);
        DUE.is("2: status(0)", x.status(0), 6);
    }

    private static void recall() {
        BeardHire x = new BeardHire();
        DUE.is("3: recall(0, 0), no beards", x.recall(0, 0), Due.BEYOND);
        DUE.is("3: recall(0, -1)", x.recall(0, -1), -1);
        x.beard(0);
        x.beard(3);
        DUE.is("3: recall(0, 1)", x.recall(0, 1), -1);
        DUE.is("3: recall(0, 0)", x.recall(0, 0), 1);
        DUE.is("3: houseOf(0, 1)", x.houseOf(0, 1), 0);
        DUE.is("3: recall(5, 0)", x.recall(5, 0), -1);
        DUE.is("3: recall(0, 2)", x.recall(0, 2), Due.BEYOND);
        DUE.is("3: recall(0, -2)", x.recall(0, -2), Due.BEYOND);
        DUE.is("3: recall(6, 0)", x.recall(6, 0), Due.BEYOND);
        DUE.is("3: recall(-1, 0)", x.recall(-1, 0), Due.BEYOND);
        DUE.is("3: recall(0, -1)", x.recall(0, -1), 0);
        DUE.is("3: houseOf(0, 1)", x.houseOf(0, 1), -1);
        DUE.is("3: houseOf(5, 1)", x.houseOf(5, 1), 0);
    }

    private static void houseOf() {
        BeardHire x = Due.told("wearer 9;wearer 9;wearer 9;beard;hire 0 0");
        DUE.is("4: houseOf(0, 2)", x.houseOf(0, 2), 1);
        DUE.is("4: houseOf(1, 2), none ON", x.houseOf(1, 2), 2);
        DUE.is("4: houseOf(2, 2)", x.houseOf(2, 2), 4);
        DUE.is("4: houseOf(3, 2)", x.houseOf(3, 2), 0);
        x.give(2, 1, 0);
        DUE.is("4: houseOf(0, 2)", x.houseOf(0, 2), 5);
        x.nights(1);
        DUE.is("4: houseOf(0, 2) a night on", x.houseOf(0, 2), 0);
        DUE.is("4: houseOf(1, 2) a night on", x.houseOf(1, 2), 5);
        DUE.is("4: houseOf(2, 2) a night on", x.houseOf(2, 2), 2);
        DUE.is("4: houseOf(0, 0)", x.houseOf(0, 0), 103);
        DUE.is("4: houseOf(0, 1)", x.houseOf(0, 1), 0);
        DUE.is("4: houseOf(0, 3)", x.houseOf(0, 3), Due.BEYOND);
        DUE.is("4: houseOf(0, -1)", x.houseOf(0, -1), Due.BEYOND);
        DUE.is("4: houseOf(6, 0)", x.houseOf(6, 0), Due.BEYOND);
        DUE.is("4: houseOf(-1, 0)", x.houseOf(-1, 0), Due.BEYOND);
    }

    private static void now() {
        BeardHire x = Due.told("beard;ginger;white;wearer 9999;wearer 9999;wearer 2;hire 1 0;hire 2 2");
        DUE.is("5: now(2)", x.now(2), 2);
        DUE.is("5: now(3)", x.now(3), 6);
        DUE.is("5: now(4)", x.now(4), 20000);
        for (int night = 0; night < 15; night++) {
            DUE.is("5: now(0)", x.now(0), night);
            DUE.is("5: now(1) in night " + night, x.now(1), night == 0 || night == 7 || night == 14 ? 1 : 0);
            x.nights(1);
        }
        DUE.is("5: now(2) when one couldn't pay", x.now(2), 6);
        DUE.is("5: now(3) when one couldn't pay", x.now(3), 2);
        BeardHire y = new BeardHire();
        for (int i = 0; i < 8; i++) {
            y.beard(0);
            y.set(i, 2, 999);
            y.wearer(9999);
        }
        y.hire(5, 7);
        DUE.is("5: now(2) of all", y.now(2), 127);
        DUE.is("5: now(3) of all", y.now(3), 32);
        DUE.is("5: now(4) of all", y.now(4), 59994);
        DUE.is("5: count(3) of all", y.count(3), 7992);
        DUE.is("5: nights(1) of all", y.nights(1), 59989);
        DUE.is("5: now(5)", x.now(5), Due.BEYOND);
        DUE.is("5: now(-1)", x.now(-1), Due.BEYOND);
    }

    public static void main(String[] args) {
        newObject();
        mood();
        recall();
        houseOf();
        now();
        DUE.end();
    }
}
