/** Promises 6 to 11: beard, of, can, set, turn, as; with what each KIND costs, meets, leaves, gains. */
public final class BeardsTest {
    private static final Due DUE = new Due();
    private static final int[] ALL = {0, 1, 2, 3, 4, 5};

    private static BeardHire oneOfEach() {
        return Due.told("beard;ginger;white;moustache;imperial;patriarch");
    }

    private static void each(String call, BeardHire x, int what, int... want) {
        for (int b : ALL) {
            DUE.is(call + " of(" + b + ", " + what + ")", x.of(b, what), want[b]);
        }
    }

    private static void meeting(String call, int mood, int fame, boolean remembered, int... want) {
        for (int b : ALL) {
            BeardHire x = oneOfEach();
            x.mood(3, mood);
            x.set(b, 1, fame);
            x.recall(3, remembered ? b : (b + 1) % 6);
            DUE.is(call + " can(" + b + ", 3, 0)", x.can(b, 3, 0), 100 + want[b]);
        }
    }

    private static void leaving(String call, int fame, int... want) {
        BeardHire x = oneOfEach();
        for (int b : ALL) {
            x.set(b, 1, fame);
            DUE.is(call + " can(" + b + ", 0, 1)", x.can(b, 0, 1), 100 + want[b]);
        }
    }

    private static void beard() {
        BeardHire x = new BeardHire();
        DUE.is("6: beard(6)", x.beard(6), Due.BEYOND);
        DUE.is("6: beard(-1)", x.beard(-1), Due.BEYOND);
        for (int i = 0; i < 8; i++) {
            DUE.is("6: beard(i % 6)", x.beard(i % 6), i);
            DUE.is("6: of(i, 0)", x.of(i, 0), i % 6);
            DUE.is("6: of(i, 1)", x.of(i, 1), 10);
            DUE.is("6: of(i, 2)", x.of(i, 2), 0);
            DUE.is("6: of(i, 3)", x.of(i, 3), -1);
        }
        DUE.is("6: a 9th", x.beard(0), Due.FULL);
        DUE.is("6: a 9th of no kind", x.beard(6), Due.BEYOND);
        DUE.is("6: count(0)", x.count(0), 8);
    }

    private static void of() {
        BeardHire x = oneOfEach();
        each("7: at first", x, 4, 5, 6, 12, 2, 12, 12);
        each("7: on a Monday", x, 5, 101, 103, 101, 100, 100, 99);
        x.nights(1);
        each("7: on no Monday", x, 5, 101, 103, 101, 100, 103, 99);
        for (int b : ALL) {
            x.set(b, 1, 59);
            x.set(b, 2, 149);
        }
        each("7: with FAME 59 and HOARD 149", x, 4, 5, 10, 12, 2, 20, 14);
        for (int b : ALL) {
            x.set(b, 1, 99);
            x.set(b, 2, 999);
        }
        each("7: with FAME 99 and HOARD 999", x, 4, 5, 14, 12, 2, 28, 31);
        x.wearer(9);
        x.wearer(9);
        x.hire(1, 4);
        each("7: ON whom", x, 3, -1, -1, -1, -1, 1, -1);
        DUE.is("7: of(0, 6)", x.of(0, 6), Due.BEYOND);
        DUE.is("7: of(0, -1)", x.of(0, -1), Due.BEYOND);
        DUE.is("7: of(6, 0)", x.of(6, 0), Due.BEYOND);
        DUE.is("7: of(-1, 0)", x.of(-1, 0), Due.BEYOND);
    }

    private static void can() {
        meeting("8: remembered, 35", 35, 10, true, 3, 3, 3, 4, 13, 6);
        meeting("8: remembered, 50", 50, 50, true, 5, 5, 5, 6, 15, 10);
        meeting("8: remembered, 21", 21, 10, true, 2, 2, 2, 3, 12, 4);
        meeting("8: remembered, 20", 20, 10, true, 2, 2, 2, 3, 2, 4);
        meeting("8: remembered, 10", 10, 10, true, 1, 1, 1, 2, 1, 2);
        meeting("8: remembered, 9", 9, 10, true, 0, 0, -6, 1, 0, -12);
        meeting("8: remembered, -9", -9, 10, true, 0, 0, -6, 1, 0, -12);
        meeting("8: remembered, -35", -35, 10, true, -3, -3, -6, -2, -3, -12);
        meeting("8: remembered, -50", -50, 10, true, -5, -5, -6, -4, -5, -12);
        meeting("8: not remembered, 35", 35, 10, false, 0, 0, -6, 1, 10, -12);
        meeting("8: not remembered, -35", -35, 10, false, 0, 0, -6, 1, 0, -12);
        meeting("8: famous, remembered, 35", 35, 51, true, 3, -1, 3, 4, 9, 6);
        meeting("8: famous, not remembered, 0", 0, 51, false, 0, -4, -6, 1, -4, -12);
        leaving("8: FAME 50", 50, 3, 3, 7, 1, 4, 7);
        leaving("8: FAME 51", 51, 3, -5, 7, 1, -4, 7);
        BeardHire x = oneOfEach();
        x.mood(5, 40);
        x.recall(5, 0);
        DUE.is("8: can(0, 5, 0)", x.can(0, 5, 0), 104);
        DUE.is("8: can(0, 4, 0)", x.can(0, 4, 0), 100);
        DUE.is("8: can(0, 6, 0)", x.can(0, 6, 0), Due.BEYOND);
        DUE.is("8: can(0, -1, 0)", x.can(0, -1, 0), Due.BEYOND);
        DUE.is("8: can(6, 0, 0)", x.can(6, 0, 0), Due.BEYOND);
        DUE.is("8: can(-1, 0, 0)", x.can(-1, 0, 0), Due.BEYOND);
        DUE.is("8: can(0, 0, 2)", x.can(0, 0, 2), Due.BEYOND);
        DUE.is("8: can(0, 0, -1)", x.can(0, 0, -1), Due.BEYOND);
    }

    private static void set() {
        BeardHire x = oneOfEach();
        DUE.is("9: set(1, 1, 99)", x.set(1, 1, 99), 10);
        DUE.is("9: set(1, 1, 0)", x.set(1, 1, 0), 99);
        DUE.is("9: set(1, 2, 999)", x.set(1, 2, 999), 0);
        DUE.is("9: set(1, 2, 0)", x.set(1, 2, 0), 999);
        DUE.is("9: set(1, 1, 7)", x.set(1, 1, 7), 0);
        DUE.is("9: set(1, 1, 100)", x.set(1, 1, 100), Due.BEYOND);
        DUE.is("9: set(1, 1, -1)", x.set(1, 1, -1), Due.BEYOND);
        DUE.is("9: set(1, 2, 1000)", x.set(1, 2, 1000), Due.BEYOND);
        DUE.is("9: set(1, 2, -1)", x.set(1, 2, -1), Due.BEYOND);
        DUE.is("9: set(1, 0, 0)", x.set(1, 0, 0), Due.BEYOND);
        DUE.is("9: set(1, 3, 0)", x.set(1, 3, 0), Due.BEYOND);
        DUE.is("9: set(6, 1, 0)", x.set(6, 1, 0), Due.BEYOND);
        DUE.is("9: set(-1, 1, 0)", x.set(-1, 1, 0), Due.BEYOND);
        DUE.is("9: of(1, 1)", x.of(1, 1), 7);
        DUE.is("9: of(1, 2)", x.of(1, 2), 0);
        DUE.is("9: of(0, 1)", x.of(0, 1), 10);
    }

    private static void turn() {
        BeardHire x = Due.told("beard fame 60 hoard 100;wearer 9;hire 0 0");
        DUE.is("10: turn(0, 5)", x.turn(0, 5), 0);
        DUE.is("10: of(0, 4)", x.of(0, 4), 14);
        DUE.is("10: turn(0, 4)", x.turn(0, 4), 5);
        DUE.is("10: of(0, 4)", x.of(0, 4), 22);
        DUE.is("10: turn(0, 4)", x.turn(0, 4), 4);
        DUE.is("10: of(0, 0)", x.of(0, 0), 4);
        DUE.is("10: of(0, 1)", x.of(0, 1), 60);
        DUE.is("10: of(0, 2)", x.of(0, 2), 100);
        DUE.is("10: of(0, 3)", x.of(0, 3), 0);
        DUE.is("10: turn(0, 6)", x.turn(0, 6), Due.BEYOND);
        DUE.is("10: turn(0, -1)", x.turn(0, -1), Due.BEYOND);
        DUE.is("10: turn(1, 0)", x.turn(1, 0), Due.BEYOND);
        DUE.is("10: turn(-1, 0)", x.turn(-1, 0), Due.BEYOND);
        DUE.is("10: of(0, 0)", x.of(0, 0), 4);
    }

    private static void as() {
        BeardHire x = oneOfEach();
        String[] under = {"0", "01", "02", "03", "014", "025"};
        for (int b : ALL) {
            x.set(b, 1, 20 + b);
            for (int k : ALL) {
                boolean is = under[b].indexOf('0' + k) >= 0;
                DUE.is("11: as(" + b + ", " + k + ")", x.as(b, k), is ? 20 + b : Due.KIND);
            }
        }
        DUE.is("11: as(0, 6)", x.as(0, 6), Due.BEYOND);
        DUE.is("11: as(0, -1)", x.as(0, -1), Due.BEYOND);
        DUE.is("11: as(6, 0)", x.as(6, 0), Due.BEYOND);
        DUE.is("11: as(-1, 0)", x.as(-1, 0), Due.BEYOND);
        x.turn(0, 4);
        DUE.is("11: as(0, 1) once it is IMPERIAL", x.as(0, 1), 20);
    }

    public static void main(String[] args) {
        beard();
        of();
        can();
        set();
        turn();
        as();
        DUE.end();
    }
}
