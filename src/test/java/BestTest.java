/** Promises 23 to 28: best, round, kind, enough, please, richest. */
public final class BestTest {
    private static final Due DUE = new Due();

    private static void best() {
        BeardHire x = Due.told("beard;moustache;moustache;wearer 100;wearer 3;wearer 50");
        DUE.is("23: best(0, 1), of two alike the least", x.best(0, 1), 1);
        DUE.is("23: best(1, 1), the one that can't be paid", x.best(1, 1), 0);
        x.hire(2, 1);
        DUE.is("23: best(0, 60), the other is not in the shop", x.best(0, 60), 2);
        DUE.is("23: best(2, 1)", x.best(2, 1), Due.STATE);
        DUE.is("23: best(2, 61) is asked first", x.best(2, 61), Due.BEYOND);
        DUE.is("23: best(0, 0)", x.best(0, 0), Due.BEYOND);
        DUE.is("23: best(0, 61)", x.best(0, 61), Due.BEYOND);
        DUE.is("23: best(3, 1)", x.best(3, 1), Due.BEYOND);
        DUE.is("23: best(-1, 1)", x.best(-1, 1), Due.BEYOND);
        DUE.is("23: nothing is hired", x.now(3), 4);
        x.hire(0, 0);
        x.back(1);
        x.hire(2, 2);
        DUE.is("23: best(1, 1)", x.best(1, 1), 1);
        x.hire(1, 1);
        DUE.is("23: STATE before NONE", x.best(1, 1), Due.STATE);
        x.wearer(1);
        DUE.is("23: best(3, 1), none in the shop", x.best(3, 1), Due.NONE);
        DUE.is("23: best of none at all", Due.told("wearer 1").best(0, 1), Due.NONE);

        x = Due.told("beard;beard;wearer 0");
        DUE.is("23: best(0, 1) with nothing", x.best(0, 1), 0);

        x = Due.told("moustache;imperial fame 0;wearer 100;house 0 fond 21");
        DUE.is("23: best(0, 1), where it is paid for", x.best(0, 1), 1);
        DUE.is("23: best(0, 2), where not", x.best(0, 2), 0);
    }

    private static void round() {
        BeardHire x = Due.told("moustache;wearer 100;wearer 5;hire 0 0;house 4 fond 50");
        x.recall(4, 0);
        DUE.is("24: round(0, 1)", x.round(0, 1), 4);
        DUE.is("24: round(0, 2), of two alike the least", x.round(0, 2), 3);
        DUE.is("24: round(0, 6), all alike", x.round(0, 6), 0);
        DUE.is("24: round(1, 60), none ON", x.round(1, 60), 0);
        DUE.is("24: nothing changes", x.wearerOf(0, 1), 0);
        DUE.is("24: round(0, 0)", x.round(0, 0), Due.BEYOND);
        DUE.is("24: round(0, 61)", x.round(0, 61), Due.BEYOND);
        DUE.is("24: round(2, 1)", x.round(2, 1), Due.BEYOND);
        DUE.is("24: round(-1, 1)", x.round(-1, 1), Due.BEYOND);
        x.nights(1);
        DUE.is("24: round(0, 1) a night on", x.round(0, 1), 3);
    }

    private static void kind() {
        BeardHire x = Due.told("beard;beard fame 0;wearer 100;hire 0 0");
        DUE.is("25: kind(0, 1)", x.kind(0, 1), 3);
        DUE.is("25: kind(1, 60), in the shop", x.kind(1, 60), 0);
        DUE.is("25: nothing changes", x.of(0, 0), 0);
        DUE.is("25: kind(0, 0)", x.kind(0, 0), Due.BEYOND);
        DUE.is("25: kind(0, 61)", x.kind(0, 61), Due.BEYOND);
        DUE.is("25: kind(2, 1)", x.kind(2, 1), Due.BEYOND);
        DUE.is("25: kind(-1, 1)", x.kind(-1, 1), Due.BEYOND);
        x = Due.told("beard fame 0;wearer 100;hire 0 0;house 0 fond 50");
        x.recall(0, 0);
        DUE.is("25: kind(0, 1) at a fond house", x.kind(0, 1), 4);
        x = Due.told("beard;imperial;wearer 100;wearer 100 round 0;hire 0 0;hire 1 1;house 0 fond 19");
        DUE.is("25: kind(0, 1) for both together", x.kind(0, 1), 0);
    }

    private static void enough() {
        BeardHire x = Due.told("beard;wearer 0;wearer 100;hire 0 0");
        DUE.is("26: enough(0, 1)", x.enough(0, 1), 10);
        DUE.is("26: enough(0, 2)", x.enough(0, 2), 10);
        DUE.is("26: enough(0, 3)", x.enough(0, 3), 20);
        DUE.is("26: enough(0, 10)", x.enough(0, 10), 50);
        DUE.is("26: nothing changes", x.wearerOf(0, 0), 0);
        DUE.is("26: enough(1, 1)", x.enough(1, 1), Due.STATE);
        DUE.is("26: enough(1, 0) is asked first", x.enough(1, 0), Due.BEYOND);
        DUE.is("26: enough(0, 0)", x.enough(0, 0), Due.BEYOND);
        DUE.is("26: enough(0, 61)", x.enough(0, 61), Due.BEYOND);
        DUE.is("26: enough(2, 1)", x.enough(2, 1), Due.BEYOND);
        DUE.is("26: enough(-1, 1)", x.enough(-1, 1), Due.BEYOND);
        // 43 a night where all are cross, and 31 in the last, when what it gives may be missing
        x = Due.told("patriarch hoard 999;wearer 0;hire 0 0");
        for (int h = 0; h < 6; h++) {
            x.mood(h, -50);
        }
        DUE.is("26: enough(0, 46), 1966", x.enough(0, 46), 1970);
        DUE.is("26: enough(0, 47), 2009", x.enough(0, 47), Due.NONE);
        // 41 a night, as long as the HOARD is below 900, and 29 in the last
        x = Due.told("patriarch hoard 850;wearer 0;hire 0 0");
        for (int h = 0; h < 6; h++) {
            x.mood(h, -50);
        }
        DUE.is("26: enough(0, 49), 1997", x.enough(0, 49), 2000);
        x = Due.told("moustache;wearer 9999;hire 0 0");
        DUE.is("26: the purse of now is no matter", x.enough(0, 1), 10);
    }

    private static void please() {
        BeardHire x = Due.told("moustache;wearer 100;wearer 5;hire 0 0");
        x.recall(0, 0);
        DUE.is("27: please(0, 0, 1, 105)", x.please(0, 0, 1, 105), Due.NONE);
        DUE.is("27: please(0, 0, 1, 104)", x.please(0, 0, 1, 104), 50);
        DUE.is("27: please(0, 0, 1, 103)", x.please(0, 0, 1, 103), 40);
        DUE.is("27: please(0, 0, 1, 99)", x.please(0, 0, 1, 99), -9);
        DUE.is("27: please(0, 0, 1, 95)", x.please(0, 0, 1, 95), -49);
        DUE.is("27: please(0, 0, 1, 94)", x.please(0, 0, 1, 94), -50);
        DUE.is("27: please(0, 1, 1, 99), elsewhere", x.please(0, 1, 1, 99), -50);
        DUE.is("27: please(0, 1, 1, 100), elsewhere", x.please(0, 1, 1, 100), Due.NONE);
        DUE.is("27: please(1, 0, 60, 5), none ON", x.please(1, 0, 60, 5), -50);
        DUE.is("27: please(1, 0, 60, 6), none ON", x.please(1, 0, 60, 6), Due.NONE);
        DUE.is("27: please(0, 0, 60, 0)", x.please(0, 0, 60, 0), -50);
        DUE.is("27: nothing changes", x.houseOf(0, 0), 100);
        DUE.is("27: please(0, 0, 1, 10000)", x.please(0, 0, 1, 10000), Due.BEYOND);
        DUE.is("27: please(0, 0, 1, -1)", x.please(0, 0, 1, -1), Due.BEYOND);
        DUE.is("27: please(0, 0, 0, 0)", x.please(0, 0, 0, 0), Due.BEYOND);
        DUE.is("27: please(0, 0, 61, 0)", x.please(0, 0, 61, 0), Due.BEYOND);
        DUE.is("27: please(0, 6, 1, 0)", x.please(0, 6, 1, 0), Due.BEYOND);
        DUE.is("27: please(0, -1, 1, 0)", x.please(0, -1, 1, 0), Due.BEYOND);
        DUE.is("27: please(2, 0, 1, 0)", x.please(2, 0, 1, 0), Due.BEYOND);
        DUE.is("27: please(-1, 0, 1, 0)", x.please(-1, 0, 1, 0), Due.BEYOND);
    }

    private static void richest() {
        BeardHire x = new BeardHire();
        DUE.is("28: richest(0), none", x.richest(0), Due.NONE);
        DUE.is("28: richest(201), none", x.richest(201), Due.BEYOND);
        x = Due.told("beard hoard 5;beard hoard 9;beard hoard 9;wearer 99");
        DUE.is("28: richest(0)", x.richest(0), 1);
        DUE.is("28: richest(1), all combed out", x.richest(1), 0);
        DUE.is("28: richest(200)", x.richest(200), 0);
        x.hire(0, 2);
        DUE.is("28: richest(0)", x.richest(0), 1);
        DUE.is("28: richest(1)", x.richest(1), 2);
        DUE.is("28: nothing changes", x.of(1, 2), 9);
        DUE.is("28: richest(-1)", x.richest(-1), Due.BEYOND);
        DUE.is("28: richest(201)", x.richest(201), Due.BEYOND);
    }

    public static void main(String[] args) {
        best();
        round();
        kind();
        enough();
        please();
        richest();
        DUE.end();
    }
}
