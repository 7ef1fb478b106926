/** Promises 38 to 42: image, undo, tear, count, status. */
public final class ImagesTest {
    private static final Due DUE = new Due();
    private static final String SHOP =
        "beard fame 20 hoard 30;ginger;wearer 70 round 3;wearer 80;hire 1 0;house 2 cross 5";

    private static void asTold(String call, BeardHire x) {
        DUE.is(call + ": now(0)", x.now(0), 0);
        DUE.is(call + ": count(0)", x.count(0), 2);
        DUE.is(call + ": count(1)", x.count(1), 2);
        int[] beard = {0, 20, 30, 1};
        int[] wearer = {70, 3, -1, 3};
        for (int what = 0; what < 4; what++) {
            DUE.is(call + ": of(0, what)", x.of(0, what), beard[what]);
            DUE.is(call + ": wearerOf(0, what)", x.wearerOf(0, what), wearer[what]);
        }
        DUE.is(call + ": wearerOf(1, 2)", x.wearerOf(1, 2), 0);
        DUE.is(call + ": houseOf(2, 0)", x.houseOf(2, 0), 95);
        DUE.is(call + ": houseOf(1, 1)", x.houseOf(1, 1), 1);
        DUE.is(call + ": houseOf(0, 1)", x.houseOf(0, 1), -1);
    }

    private static void changeAll(BeardHire x) {
        x.nights(9);
        x.turn(0, 5);
        x.set(0, 1, 77);
        x.set(0, 2, 777);
        x.back(0);
        x.hire(0, 1);
        x.give(0, 0, 7777);
        x.give(0, 1, 5);
        x.mood(2, 44);
        x.recall(0, 0);
        x.recall(1, 0);
        x.beard(3);
        x.wearer(5);
    }

    private static void imageAndUndo() {
        BeardHire x = Due.told(SHOP);
        x.recall(1, 1);
        DUE.is("39: undo() of nothing", x.undo(), Due.NONE);
        asTold("39: nothing changes", x);
        DUE.is("38: image()", x.image(), 1);
        asTold("38: nothing changes", x);
        for (int time = 0; time < 2; time++) {
            changeAll(x);
            DUE.is("39: undo()", x.undo(), 2);
            asTold("39: undone", x);
        }
        changeAll(x);
        DUE.is("38: image() of later", x.image(), 1);
        x.nights(1);
        x.beard(3);
        DUE.is("39: undo() to the latest", x.undo(), 3);
        DUE.is("39: now(0)", x.now(0), 9);
        DUE.is("39: undo() to it again", x.undo(), 3);
    }

    private static void notKept() {
        BeardHire x = Due.told(SHOP);
        x.sheet(0, 8, 2);
        Due.feed(x, "be");
        x.image();
        Due.feed(x, "ard");
        x.write(0, 1, 5);
        x.sheet(1, 16, 3);
        x.beard(9);
        x.undo();
        DUE.is("38: THE TAPE is not kept", x.count(2), 5);
        DUE.is("38: sheets are not kept", x.write(0, 1, 0), 5);
        DUE.is("38: sheets are not kept", x.write(1, 0, 0), 0);
        DUE.is("42: undo() takes no finding back", x.status(-1), 1);
    }

    private static void tear() {
        BeardHire x = Due.told(SHOP);
        DUE.is("40: tear() of nothing", x.tear(), 0);
        x.image();
        x.image();
        DUE.is("40: tear()", x.tear(), 1);
        DUE.is("40: tear() again", x.tear(), 0);
        DUE.is("40: undo()", x.undo(), Due.NONE);
        DUE.is("40: nothing else changes", x.count(0), 2);
        x.image();
        DUE.is("40: undo() of another", x.undo(), 2);
    }

    private static void count() {
        BeardHire x = Due.told("beard hoard 999;ginger hoard 5;white;wearer 1;wearer 2");
        Due.feed(x, "seven..");
        DUE.is("41: count(0)", x.count(0), 3);
        DUE.is("41: count(1)", x.count(1), 2);
        DUE.is("41: count(2)", x.count(2), 7);
        DUE.is("41: count(3)", x.count(3), 1004);
        DUE.is("41: count(4)", x.count(4), Due.BEYOND);
        DUE.is("41: count(-1)", x.count(-1), Due.BEYOND);
    }

    private static void status() {
        BeardHire x = Due.told(SHOP);
        x.beard(9);
        x.beard(9);
        for (int i = 0; i < 30; i++) {
            x.feed(0, 4);
        }
        x.feed(0, 1);
        x.as(0, 5);
        x.as(0, 5);
        x.as(0, 5);
        x.undo();
        x.hire(1, 1);
        x.hire(1, 1);
        x.lays(0);
        x.sheet(0, 8, -1);
        x.sheet(0, 8, -1);
        int[] want = {2, 1, 3, 1, 2, 1, 2};
        for (int which = 0; which < 7; which++) {
            DUE.is("42: status(" + which + ")", x.status(which), want[which]);
        }
        DUE.is("42: status(-1)", x.status(-1), 12);
        DUE.is("42: status(7)", x.status(7), Due.BEYOND);
        DUE.is("42: status(-2)", x.status(-2), Due.BEYOND);
        DUE.is("42: both are counted", x.status(0), 4);
        DUE.is("42: both are counted", x.status(-1), 14);
        x.shop();
        DUE.is("42: a FAULT is no finding", x.status(-1), 14);
        x.houseOf(0, 1);
        DUE.is("42: -1 is no finding", x.status(-1), 14);
    }

    public static void main(String[] args) {
        imageAndUndo();
        notKept();
        tear();
        count();
        status();
        DUE.end();
    }
}
