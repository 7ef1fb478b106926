/** Promises 17 to 22: nights, on, then, fond, home, falls; with how a NIGHT goes. */
public final class NightsTest {
    private static final Due DUE = new Due();

    private static void paying() {
        BeardHire x = Due.told("beard;wearer 5;hire 0 0");
        DUE.is("17: nights(1), just paid", x.nights(1), 0);
        DUE.is("17: it stays ON", x.wearerOf(0, 2), 0);
        DUE.is("17: HOARD", x.of(0, 2), 1);
        DUE.is("17: FAME", x.of(0, 1), 11);
        DUE.is("17: MOOD of house 0", x.houseOf(0, 0), 103);
        DUE.is("17: house 0 REMEMBERS", x.houseOf(0, 1), 0);
        DUE.is("17: nights(1), not paid", x.nights(1), 0);
        DUE.is("17: it is back", x.wearerOf(0, 2), -1);
        DUE.is("17: in the shop", x.of(0, 3), -1);
        DUE.is("17: FAME as it was", x.of(0, 1), 11);
        DUE.is("17: MOOD of house 1, where nobody came", x.houseOf(1, 0), 100);
        DUE.is("17: house 1 REMEMBERS nobody", x.houseOf(1, 1), -1);
        DUE.is("17: now(0)", x.now(0), 2);

        x = Due.told("beard;wearer 4;hire 0 0");
        DUE.is("17: nights(1) with 1 too little", x.nights(1), 4);
        DUE.is("17: it is back", x.of(0, 3), -1);
    }

    private static void heldWithinBounds() {
        BeardHire x = Due.told("moustache hoard 998;wearer 9999;hire 0 0;house 0 fond 50");
        x.recall(0, 0);
        DUE.is("17: PURSE above 9999", x.nights(1), 9999);
        DUE.is("17: HOARD above 999", x.of(0, 2), 999);
        DUE.is("17: MOOD above 50", x.houseOf(0, 0), 150);

        x = Due.told("patriarch fame 0;wearer 20;hire 0 0;house 0 fond 48");
        DUE.is("17: PURSE below 0", x.nights(1), 0);
        DUE.is("17: it stays ON", x.of(0, 3), 0);
        DUE.is("17: FAME below 0", x.of(0, 1), 0);
        DUE.is("17: HOARD when it gave", x.of(0, 2), 1);
        DUE.is("17: MOOD above 50", x.houseOf(0, 0), 150);

        x = Due.told("ginger fame 98;wearer 99;hire 0 0;house 0 cross 48");
        x.nights(1);
        DUE.is("17: MOOD below -50", x.houseOf(0, 0), 50);
        DUE.is("17: FAME above 99", x.of(0, 1), 99);
    }

    private static void foundOutFirst() {
        BeardHire x = Due.told("ginger fame 50;wearer 100;hire 0 0");
        DUE.is("17: FAME 50 is not above 50 yet", x.nights(1), 90);
        DUE.is("17: MOOD", x.houseOf(0, 0), 103);
        DUE.is("17: FAME", x.of(0, 1), 53);
        DUE.is("17: but then it is", x.nights(1), 76);
        DUE.is("17: MOOD", x.houseOf(1, 0), 95);

        x = Due.told("beard;wearer 100;hire 0 0;house 0 fond 40");
        DUE.is("17: it wasn't REMEMBERED when it came", x.nights(1), 95);
        x = Due.told("beard;wearer 100;hire 0 0;house 0 fond 18");
        x.recall(0, 0);
        DUE.is("17: MOOD as it was when it came", x.nights(1), 96);
        DUE.is("17: HOARD when it got", x.of(0, 2), 3);
    }

    private static void byNumbers() {
        BeardHire x = Due.told("moustache;beard;wearer 100;wearer 100 round 0;hire 0 0;hire 1 1;house 0 fond 20");
        x.recall(0, 1);
        x.nights(1);
        DUE.is("17: wearer 0 came first", x.wearerOf(0, 0), 99);
        DUE.is("17: so beard 1 was REMEMBERED no more", x.wearerOf(1, 0), 95);
        DUE.is("17: MOOD by both", x.houseOf(0, 0), 124);
        DUE.is("17: REMEMBERS the latter", x.houseOf(0, 1), 1);

        x = Due.told("moustache;imperial;wearer 100;wearer 100 round 0;hire 0 1;hire 1 0;house 0 fond 20");
        DUE.is("17: wearers, not beards, by numbers", x.nights(1), 88 + 99);
        x = Due.told("moustache;imperial;wearer 100;wearer 100 round 0;hire 0 0;hire 1 1;house 0 fond 20");
        DUE.is("17: MOOD 21 behind the first", x.nights(1), 99 + 98);
    }

    private static void combing() {
        BeardHire x = Due.told("beard hoard 9;beard hoard 9;wearer 999;hire 0 0");
        x.nights(1);
        DUE.is("17: ON on a Monday", x.of(0, 2), 10);
        DUE.is("17: in the shop on a Monday", x.of(1, 2), 0);
        x.set(1, 2, 5);
        x.nights(6);
        DUE.is("17: in the shop till Sunday", x.of(1, 2), 5);
        x.nights(1);
        DUE.is("17: in the shop on the next Monday", x.of(1, 2), 0);
        x = Due.told("beard hoard 9;wearer 4;hire 0 0");
        x.nights(1);
        DUE.is("17: come back on a Monday", x.of(0, 2), 0);
        x = Due.told("beard;wearer 4");
        x.nights(1);
        x.set(0, 2, 9);
        x.hire(0, 0);
        x.nights(1);
        DUE.is("17: come back on a Tuesday", x.of(0, 2), 9);
    }

    private static void nights() {
        BeardHire x = Due.told("beard;wearer 50;wearer 7;hire 0 0");
        DUE.is("17: nights(0)", x.nights(0), Due.BEYOND);
        DUE.is("17: nights(-1)", x.nights(-1), Due.BEYOND);
        DUE.is("17: nights(101)", x.nights(101), Due.BEYOND);
        DUE.is("17: nights(3)", x.nights(3), 42);
        DUE.is("17: now(0)", x.now(0), 3);
        DUE.is("17: nights(100)", x.nights(100), 7);
        DUE.is("17: now(0)", x.now(0), 103);
        // Only calls beyond the 512th reach the last night; the class keeps the promise there too.
        for (int i = 0; i < 998; i++) {
            x.nights(100);
        }
        DUE.is("17: nights(97) beyond the last", x.nights(97), Due.STATE);
        DUE.is("17: nights(101) is asked first", x.nights(101), Due.BEYOND);
        DUE.is("17: nights(96) to the last", x.nights(96), 7);
        DUE.is("17: now(0)", x.now(0), 99999);
        DUE.is("17: nights(1) from the last", x.nights(1), Due.STATE);
    }

    /** A beard ON with a purse of 50 pays for ten nights, and gets nothing from anyone. */
    private static BeardHire tenNights() {
        return Due.told("beard;wearer 50;wearer 3;hire 0 0");
    }

    private static void unchanged(String call, BeardHire x) {
        DUE.is(call + " leaves NIGHT", x.now(0), 0);
        DUE.is(call + " leaves PURSES", x.now(4), 53);
        DUE.is(call + " leaves who is ON", x.now(3), 1);
        DUE.is(call + " leaves FAME", x.of(0, 1), 10);
        DUE.is(call + " leaves HOARD", x.of(0, 2), 0);
        DUE.is(call + " leaves MOOD", x.houseOf(0, 0), 100);
        DUE.is(call + " leaves what it REMEMBERS", x.houseOf(0, 1), -1);
    }

    private static void on() {
        BeardHire x = tenNights();
        DUE.is("18: on(0, 0, 0)", x.on(0, 0, 0), 50);
        DUE.is("18: on(0, 1, 0)", x.on(0, 1, 0), 45);
        DUE.is("18: on(0, 10, 0)", x.on(0, 10, 0), 0);
        DUE.is("18: on(0, 0, 1)", x.on(0, 0, 1), 0);
        DUE.is("18: on(0, 10, 1)", x.on(0, 10, 1), 0);
        DUE.is("18: on(0, 11, 1)", x.on(0, 11, 1), -1);
        DUE.is("18: on(0, 200, 1)", x.on(0, 200, 1), -1);
        DUE.is("18: on(1, 200, 0)", x.on(1, 200, 0), 3);
        unchanged("18: on", x);
        DUE.is("18: on(0, 201, 0)", x.on(0, 201, 0), Due.BEYOND);
        DUE.is("18: on(0, -1, 0)", x.on(0, -1, 0), Due.BEYOND);
        DUE.is("18: on(0, 0, 2)", x.on(0, 0, 2), Due.BEYOND);
        DUE.is("18: on(0, 0, -1)", x.on(0, 0, -1), Due.BEYOND);
        DUE.is("18: on(2, 0, 0)", x.on(2, 0, 0), Due.BEYOND);
        DUE.is("18: on(-1, 0, 0)", x.on(-1, 0, 0), Due.BEYOND);
    }

    private static void then() {
        BeardHire x = tenNights();
        DUE.is("19: then(0, 0, 0)", x.then(0, 0, 0), 10);
        DUE.is("19: then(0, 10, 0)", x.then(0, 10, 0), 20);
        DUE.is("19: then(0, 200, 0)", x.then(0, 200, 0), 20);
        DUE.is("19: then(0, 0, 1)", x.then(0, 0, 1), 0);
        DUE.is("19: then(0, 10, 1)", x.then(0, 10, 1), 10);
        DUE.is("19: then(0, 14, 1), before the Monday", x.then(0, 14, 1), 10);
        DUE.is("19: then(0, 15, 1), after the Monday", x.then(0, 15, 1), 0);
        unchanged("19: then", x);
        DUE.is("19: then(0, 201, 0)", x.then(0, 201, 0), Due.BEYOND);
        DUE.is("19: then(0, -1, 0)", x.then(0, -1, 0), Due.BEYOND);
        DUE.is("19: then(0, 0, 2)", x.then(0, 0, 2), Due.BEYOND);
        DUE.is("19: then(0, 0, -1)", x.then(0, 0, -1), Due.BEYOND);
        DUE.is("19: then(1, 0, 0)", x.then(1, 0, 0), Due.BEYOND);
        DUE.is("19: then(-1, 0, 0)", x.then(-1, 0, 0), Due.BEYOND);
    }

    private static void fond() {
        BeardHire x = tenNights();
        DUE.is("20: fond(0, 0)", x.fond(0, 0), 0);
        DUE.is("20: fond(0, 1)", x.fond(0, 1), 3);
        DUE.is("20: fond(0, 6)", x.fond(0, 6), 3);
        DUE.is("20: fond(0, 7)", x.fond(0, 7), 6);
        DUE.is("20: fond(3, 200)", x.fond(3, 200), 6);
        DUE.is("20: fond(4, 200)", x.fond(4, 200), 3);
        unchanged("20: fond", x);
        x.mood(5, -50);
        DUE.is("20: fond(5, 0), not 100 and MOOD", x.fond(5, 0), -50);
        DUE.is("20: fond(0, 201)", x.fond(0, 201), Due.BEYOND);
        DUE.is("20: fond(0, -1)", x.fond(0, -1), Due.BEYOND);
        DUE.is("20: fond(6, 0)", x.fond(6, 0), Due.BEYOND);
        DUE.is("20: fond(-1, 0)", x.fond(-1, 0), Due.BEYOND);
    }

    private static BeardHire patriarchs(int purse) {
        return Due.told("patriarch;wearer " + purse + ";hire 0 0");
    }

    private static void home() {
        BeardHire x = tenNights();
        x.beard(0);
        DUE.is("21: home(0)", x.home(0), 11);
        DUE.is("21: home(1), in the shop", x.home(1), 0);
        unchanged("21: home", x);
        DUE.is("21: home(2)", x.home(2), Due.BEYOND);
        DUE.is("21: home(-1)", x.home(-1), Due.BEYOND);
        x.give(0, 0, 9999);
        DUE.is("21: home(0), never", x.home(0), Due.NONE);
        int latest = 0;
        for (int purse = 0; purse <= 9999; purse++) {
            BeardHire y = patriarchs(purse);
            int n = y.home(0);
            if (n == Due.NONE) {
                DUE.is("21: not home by 200 with " + purse, y.on(0, 200, 1), 0);
                break;
            }
            latest = n;
            DUE.is("21: home then with " + purse, y.on(0, n, 1), -1);
            DUE.is("21: not before with " + purse, y.on(0, n - 1, 1), 0);
        }
        DUE.is("21: the latest of all", latest, 200);
    }

    private static void falls() {
        BeardHire x = tenNights();
        DUE.is("22: falls(0, 50)", x.falls(0, 50), 0);
        DUE.is("22: falls(0, 9999)", x.falls(0, 9999), 0);
        DUE.is("22: falls(0, 49)", x.falls(0, 49), 1);
        DUE.is("22: falls(0, 45)", x.falls(0, 45), 1);
        DUE.is("22: falls(0, 44)", x.falls(0, 44), 2);
        DUE.is("22: falls(0, 0)", x.falls(0, 0), 10);
        DUE.is("22: falls(1, 2), never", x.falls(1, 2), Due.NONE);
        unchanged("22: falls", x);
        DUE.is("22: falls(0, 10000)", x.falls(0, 10000), Due.BEYOND);
        DUE.is("22: falls(0, -1)", x.falls(0, -1), Due.BEYOND);
        DUE.is("22: falls(2, 0)", x.falls(2, 0), Due.BEYOND);
        DUE.is("22: falls(-1, 0)", x.falls(-1, 0), Due.BEYOND);
        x = patriarchs(9999);
        int last = x.on(0, 200, 0);
        DUE.is("22: falls in the 200th", x.falls(0, last), 200);
        DUE.is("22: falls in the 201st", x.falls(0, last - 1), Due.NONE);
    }

    public static void main(String[] args) {
        paying();
        heldWithinBounds();
        foundOutFirst();
        byNumbers();
        combing();
        nights();
        on();
        then();
        fond();
        home();
        falls();
        DUE.end();
    }
}
