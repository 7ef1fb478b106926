/** Promises 29 to 31: feed, wipe, shop. */
public final class TextTest {
    private static final Due DUE = new Due();

    private static void feed() {
        BeardHire x = new BeardHire();
        DUE.is("29: feed(.., 0)", x.feed(0, 0), Due.BEYOND);
        DUE.is("29: feed(.., 5)", x.feed(0, 5), Due.BEYOND);
        DUE.is("29: feed(.., -1)", x.feed(0, -1), Due.BEYOND);
        DUE.is("29: feed wear", x.feed('w' << 24 | 'e' << 16 | 'a' << 8 | 'r', 4), 4);
        DUE.is("29: feed er", x.feed(0xABCD0000 | 'e' << 8 | 'r', 2), 6);
        DUE.is("29: feed a blank", x.feed(0xABCDEF00 | ' ', 1), 7);
        DUE.is("29: feed 123", x.feed(0xAB000000 | '1' << 16 | '2' << 8 | '3', 3), 10);
        DUE.is("29: shop()", x.shop(), 1);
        DUE.is("29: wearerOf(0, 0)", x.wearerOf(0, 0), 123);
        for (int i = 1; i <= 29; i++) {
            DUE.is("29: feed(.., 4)", x.feed(-1, 4), 4 * i);
        }
        DUE.is("29: feed(.., 3)", x.feed(-1, 3), 119);
        DUE.is("29: feed(.., 2), one too many", x.feed(-1, 2), Due.FULL);
        DUE.is("29: nothing came", x.count(2), 119);
        DUE.is("29: feed(.., 1)", x.feed(-1, 1), 120);
        DUE.is("29: feed(.., 1)", x.feed(-1, 1), Due.FULL);
        DUE.is("29: feed(.., 5) is asked first", x.feed(-1, 5), Due.BEYOND);
        DUE.is("29: count(2)", x.count(2), 120);
        DUE.is("29: a byte of 255 begins no token", x.shop(), -1);
    }

    private static void wipe() {
        BeardHire x = new BeardHire();
        Due.feed(x, "beard");
        DUE.is("30: wipe()", x.wipe(), 5);
        DUE.is("30: count(2)", x.count(2), 0);
        DUE.is("30: wipe() again", x.wipe(), 0);
        DUE.is("30: shop() of nothing", x.shop(), -1);
        DUE.is("30: count(0)", x.count(0), 0);
    }

    private static void told(String text, int want) {
        BeardHire x = new BeardHire();
        Due.feed(x, text);
        DUE.is("31: shop() of \"" + text + "\"", x.shop(), want);
        DUE.is("31: THE TAPE behind \"" + text + "\"", x.count(2), 0);
        DUE.is("31: findings by \"" + text + "\"", x.status(-1), 0);
        if (want < 0) {
            DUE.is("31: beards by \"" + text + "\"", x.count(0), 0);
            DUE.is("31: wearers by \"" + text + "\"", x.count(1), 0);
            DUE.is("31: PURSES by \"" + text + "\"", x.now(4), 0);
            for (int h = 0; h < 6; h++) {
                DUE.is("31: MOOD by \"" + text + "\"", x.houseOf(h, 0), 100);
            }
        }
    }

    private static void fault(String text, int place) {
        told(text, -1 - place);
    }

    private static void endsTooEarly(String text) {
        fault(text, text.length());
        fault(text + "  ", text.length() + 2);
    }

    private static void texts() {
        told("beard", 1);
        told("  beard  ", 1);
        told("beard;ginger ; white;moustache;imperial;patriarch", 6);
        told("beard fame 0 hoard 0", 1);
        told("beard fame 99 hoard 999", 1);
        told("beard fame99hoard999;wearer9999round5;house0fond50;hire0 0", 4);
        told("beard hoard 007", 1);
        told("wearer 0", 1);
        told("wearer 00000000000000000000009999", 1);
        told("house 5 cross 50;house 5 fond 0", 2);
        told("wearer 1;beard;hire 0 0", 3);
        told("beard;beard;beard;beard;beard;beard;beard;beard", 8);
        told("wearer 1;wearer 1;wearer 1;wearer 1;wearer 1;wearer 1", 6);
        String most = "house0fond1;".repeat(10);
        told(most.substring(0, 119), 10);
        fault(most, 120);
        told("wearer" + "0".repeat(114), 1);
        told("wearer" + "0".repeat(113) + " ", 1);
        fault("wearer1" + "a".repeat(113), 7);
    }

    private static void tooEarly() {
        for (String text : new String[] {
            "", "beard;", "beard fame", "beard hoard", "beard fame 1 hoard", "wearer", "wearer 1 round", "house",
            "house 1", "house 1 fond", "house 1 cross", "hire", "wearer 1;hire 0", "beard ; "
        }) {
            endsTooEarly(text);
        }
    }

    private static void faults() {
        fault(";beard", 0);
        fault("beard;;beard", 6);
        fault("beards", 0);
        fault("bear", 0);
        fault("xeard", 0);
        fault("beare", 0);
        fault("beardz", 0);
        fault("zbeard", 0);
        fault("abeard", 0);
        fault("beard game 1", 6);
        fault("Beard", 0);
        fault("\tbeard", 0);
        fault("beard\tfame 1", 5);
        fault("beard\n", 5);
        fault("beard.", 5);
        fault("beard\u00ff", 5);
        fault("beard\u0000", 5);
        fault("beard{", 5);
        fault("beard`", 5);
        fault("beard:", 5);
        fault("beard/", 5);
        fault("beardginger", 0);
        fault("beard ginger", 6);
        fault("beard 5", 6);
        fault("beard fame 100", 11);
        fault("beard fame -1", 11);
        fault("beard fame fame", 11);
        fault("beard fame ;", 11);
        fault("beard hoard 1000", 12);
        fault("beard hoard 1 fame 1", 14);
        fault("beard fame 1 fame 1", 13);
        fault("beard hoard 1 hoard 1", 14);
        fault("beard round 1", 6);
        fault("fame 1", 0);
        fault("5", 0);
        fault("wearer x", 7);
        fault("wearer 10000", 7);
        fault("wearer 4294967297", 7);
        fault("wearer 18446744073709551617", 7);
        fault("wearer 1 2", 9);
        fault("wearer 1 round 6", 15);
        fault("wearer 1 round x", 15);
        fault("wearer 1 fame 6", 9);
        fault("house 6 fond 1", 6);
        fault("house x", 6);
        fault("house 1 fund 1", 8);
        fault("house 1 1", 8);
        fault("house 1 fond 51", 13);
        fault("house 1 cross 51", 14);
        fault("house 1 cross x", 14);
        fault("house 1 fond 1 cross 1", 15);
        fault("hire x", 5);
        fault("hire 0 0", 5);
        fault("hire 0 0;wearer 1;beard", 5);
        fault("wearer 1;hire 0 0", 16);
        fault("wearer 1;hire 1 0", 14);
        fault("wearer 1;beard;hire 0 1", 22);
        fault("wearer 1;beard;hire 0 x", 22);
        fault("wearer 1;beard;hire 0;0", 21);
        fault("wearer 1;beard;hire 0 0 0", 24);
        fault("wearer 1;beard;beard;hire 0 0;hire 0 1", 35);
        fault("wearer 1;wearer 2;beard;hire 0 0;hire 1 0", 40);
        fault("house 1 fond 9;wearer 5;beard fame 100", 35);
        fault("beard;beard;beard;beard;beard;beard;beard;beard;moustache fame 100", 48);
        fault("wearer 1;wearer 1;wearer 1;wearer 1;wearer 1;wearer 1;wearer", 54);
    }

    private static void comesToWhatThereIs() {
        BeardHire x = Due.told("wearer 7;wearer 8 round 5;patriarch hoard 999;imperial fame 99;ginger;hire 1 2");
        DUE.is("31: wearerOf(0, 0)", x.wearerOf(0, 0), 7);
        DUE.is("31: wearerOf(0, 1)", x.wearerOf(0, 1), 0);
        DUE.is("31: wearerOf(1, 1)", x.wearerOf(1, 1), 5);
        DUE.is("31: of(0, 0)", x.of(0, 0), 5);
        DUE.is("31: of(0, 1)", x.of(0, 1), 10);
        DUE.is("31: of(0, 2)", x.of(0, 2), 999);
        DUE.is("31: of(1, 0)", x.of(1, 0), 4);
        DUE.is("31: of(1, 1)", x.of(1, 1), 99);
        DUE.is("31: of(1, 2)", x.of(1, 2), 0);
        DUE.is("31: of(2, 3)", x.of(2, 3), 1);
        DUE.is("31: wearerOf(1, 2)", x.wearerOf(1, 2), 2);
        DUE.is("31: more of it", Due.shop(x, "wearer 9;house 3 cross 4;hire 2 0;white"), 4);
        DUE.is("31: wearerOf(2, 1)", x.wearerOf(2, 1), 2);
        DUE.is("31: wearerOf(2, 2)", x.wearerOf(2, 2), 0);
        DUE.is("31: houseOf(3, 0)", x.houseOf(3, 0), 96);
        DUE.is("31: of(3, 0)", x.of(3, 0), 2);
        DUE.is("31: one hired before", Due.shop(x, "hire 0 0"), -8);
        DUE.is("31: one with one ON", Due.shop(x, "hire 1 1"), -6);
        x.beard(0);
        x.beard(0);
        x.beard(0);
        DUE.is("31: an 8th and a 9th", Due.shop(x, "house 3 fond 9;beard;beard"), -22);
        DUE.is("31: nothing came", x.count(0), 7);
        DUE.is("31: nothing came", x.houseOf(3, 0), 96);
        x.wearer(0);
        x.wearer(0);
        x.wearer(0);
        DUE.is("31: a 7th wearer", Due.shop(x, "beard;wearer 10000"), -7);
        DUE.is("31: findings", x.status(-1), 0);
        x.beard(0);
        DUE.is("31: beside a full house of wearers", Due.shop(x, "hire 6 1"), -6);
        DUE.is("31: beside a full house of wearers", Due.shop(x, "hire 7 1"), -6);
        DUE.is("31: beside a full shop", Due.shop(x, "hire 0 8"), -8);
        DUE.is("31: beside a full shop", Due.shop(x, "hire 0 9"), -8);
        DUE.is("31: the last of both", Due.shop(x, "hire 5 7"), 1);
    }

    public static void main(String[] args) {
        feed();
        wipe();
        texts();
        tooEarly();
        faults();
        comesToWhatThereIs();
        DUE.end();
    }
}
