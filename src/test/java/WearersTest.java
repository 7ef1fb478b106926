/** Promises 12 to 16: wearer, wearerOf, give, hire, back. */
public final class WearersTest {
    private static final Due DUE = new Due();

    private static void wearer() {
        BeardHire x = new BeardHire();
        DUE.is("12: wearer(-1)", x.wearer(-1), Due.BEYOND);
        DUE.is("12: wearer(10000)", x.wearer(10000), Due.BEYOND);
        int[] purses = {0, 9999, 50, 1, 2, 3};
        for (int w = 0; w < 6; w++) {
            DUE.is("12: wearer(purse)", x.wearer(purses[w]), w);
            DUE.is("12: wearerOf(w, 0)", x.wearerOf(w, 0), purses[w]);
            DUE.is("12: wearerOf(w, 1)", x.wearerOf(w, 1), w);
            DUE.is("12: wearerOf(w, 2)", x.wearerOf(w, 2), -1);
        }
        DUE.is("12: a 7th", x.wearer(0), Due.FULL);
        DUE.is("12: a 7th with no such purse", x.wearer(10000), Due.BEYOND);
        DUE.is("12: count(1)", x.count(1), 6);
    }

    private static void wearerOf() {
        BeardHire x = Due.told("wearer 70;wearer 80 round 5;beard;ginger;hire 1 1");
        DUE.is("13: wearerOf(1, 0)", x.wearerOf(1, 0), 80);
        DUE.is("13: wearerOf(1, 1)", x.wearerOf(1, 1), 5);
        DUE.is("13: wearerOf(1, 2)", x.wearerOf(1, 2), 1);
        DUE.is("13: wearerOf(0, 2)", x.wearerOf(0, 2), -1);
        DUE.is("13: wearerOf(1, 3)", x.wearerOf(1, 3), 5);
        x.nights(1);
        DUE.is("13: wearerOf(1, 3) a night on", x.wearerOf(1, 3), 0);
        DUE.is("13: wearerOf(0, 3) a night on", x.wearerOf(0, 3), 1);
        DUE.is("13: wearerOf(1, 0) a night on", x.wearerOf(1, 0), 74);
        DUE.is("13: wearerOf(1, 1) a night on", x.wearerOf(1, 1), 5);
        DUE.is("13: wearerOf(0, 4)", x.wearerOf(0, 4), Due.BEYOND);
        DUE.is("13: wearerOf(0, -1)", x.wearerOf(0, -1), Due.BEYOND);
        DUE.is("13: wearerOf(2, 0)", x.wearerOf(2, 0), Due.BEYOND);
        DUE.is("13: wearerOf(-1, 0)", x.wearerOf(-1, 0), Due.BEYOND);
    }

    private static void give() {
        BeardHire x = Due.told("wearer 70;wearer 80");
        DUE.is("14: give(1, 0, 9999)", x.give(1, 0, 9999), 80);
        DUE.is("14: give(1, 0, 0)", x.give(1, 0, 0), 9999);
        DUE.is("14: give(1, 1, 5)", x.give(1, 1, 5), 1);
        DUE.is("14: give(1, 1, 0)", x.give(1, 1, 0), 5);
        DUE.is("14: give(0, 0, 10000)", x.give(0, 0, 10000), Due.BEYOND);
        DUE.is("14: give(0, 0, -1)", x.give(0, 0, -1), Due.BEYOND);
        DUE.is("14: give(0, 1, 6)", x.give(0, 1, 6), Due.BEYOND);
        DUE.is("14: give(0, 1, -1)", x.give(0, 1, -1), Due.BEYOND);
        DUE.is("14: give(0, 2, 0)", x.give(0, 2, 0), Due.BEYOND);
        DUE.is("14: give(0, -1, 0)", x.give(0, -1, 0), Due.BEYOND);
        DUE.is("14: give(2, 0, 0)", x.give(2, 0, 0), Due.BEYOND);
        DUE.is("14: give(-1, 0, 0)", x.give(-1, 0, 0), Due.BEYOND);
        DUE.is("14: wearerOf(0, 0)", x.wearerOf(0, 0), 70);
        DUE.is("14: wearerOf(0, 1)", x.wearerOf(0, 1), 0);
    }

    private static void hire() {
        BeardHire x = Due.told("wearer 0;wearer 80;beard;ginger fame 99");
        DUE.is("15: hire(0, 1), without the purse", x.hire(0, 1), 14);
        DUE.is("15: wearerOf(0, 0): nothing is paid yet", x.wearerOf(0, 0), 0);
        DUE.is("15: wearerOf(0, 2)", x.wearerOf(0, 2), 1);
        DUE.is("15: of(1, 3)", x.of(1, 3), 0);
        DUE.is("15: hire(0, 0): has one ON", x.hire(0, 0), Due.STATE);
        DUE.is("15: hire(1, 1): not in the shop", x.hire(1, 1), Due.STATE);
        DUE.is("15: hire(0, 2)", x.hire(0, 2), Due.BEYOND);
        DUE.is("15: hire(0, -1)", x.hire(0, -1), Due.BEYOND);
        DUE.is("15: hire(2, 0)", x.hire(2, 0), Due.BEYOND);
        DUE.is("15: hire(-1, 0)", x.hire(-1, 0), Due.BEYOND);
        DUE.is("15: now(3)", x.now(3), 1);
        DUE.is("15: now(2)", x.now(2), 1);
    }

    private static void back() {
        BeardHire x = Due.told("wearer 0;wearer 80;beard;ginger;hire 1 0");
        DUE.is("16: back(1)", x.back(1), Due.STATE);
        DUE.is("16: back(2)", x.back(2), Due.BEYOND);
        DUE.is("16: back(-1)", x.back(-1), Due.BEYOND);
        DUE.is("16: back(0)", x.back(0), 1);
        DUE.is("16: back(0) again", x.back(0), Due.STATE);
        DUE.is("16: wearerOf(1, 2)", x.wearerOf(1, 2), -1);
        DUE.is("16: of(0, 3)", x.of(0, 3), -1);
        DUE.is("16: hire(0, 0)", x.hire(0, 0), 5);
        DUE.is("16: hire(1, 1)", x.hire(1, 1), 6);
    }

    public static void main(String[] args) {
        wearer();
        wearerOf();
        give();
        hire();
        back();
        DUE.end();
    }
}
