/** The sentences of promises 29 to 31, and those of the Terms on THE TEXT. */
final class TextEdges {
    private final Edges e;

    private TextEdges(Edges e) {
        this.e = e;
    }

    static void run(Edges e) {
        TextEdges t = new TextEdges(e);
        t.tape();
        t.tokens();
        t.items();
        t.beardsAndWearers();
        t.housesAndHires();
        t.faults();
        t.feed();
        t.wipe();
        t.shop();
    }

    private BeardHire told(String text, int items) {
        BeardHire x = new BeardHire();
        Due.feed(x, text);
        e.is("shop() of \"" + text + "\"", x.shop(), items);
        e.is("THE TAPE behind it", x.count(2), 0);
        return x;
    }

    /** The text has its FAULT at a place; told to a busy shop it changes nothing there. */
    private void fault(String text, int place) {
        BeardHire x = told(text, -1 - place);
        e.is("findings by it", x.status(-1), 0);
        e.is("what came by it", x.count(0) + x.count(1) + x.now(4), 0);
        for (int h = 0; h < 6; h++) {
            e.is("MOOD by it", x.houseOf(h, 0), 100);
        }
    }

    private void tape() {
        e.says(0, "THE TEXT of a SHOP, from THE TAPE (bytes, at most 120)");
        String blanks = " ".repeat(109);
        BeardHire x = told("beard" + blanks + "fame 7", 1);
        e.is("the last of 120 bytes is read", x.of(0, 1), 7);
        x = new BeardHire();
        Due.feed(x, "beard" + blanks + "fame 7");
        e.is("a byte more", x.feed('7', 1), Due.FULL);
        e.is("it is not read", x.shop(), 1);
        e.is("FAME", x.of(0, 1), 7);
    }

    private void tokens() {
        e.says(0, "TOKENS, each as long as can be: WORDS (letters a to z), NUMBERS (digits, 9999 at most), ..");
        fault("beardginger", 0);
        fault("beardz", 0);
        fault("abeard", 0);
        fault("be ard", 0);
        fault("beard fame 1 2", 13);
        told("beard fame12hoard345", 1);
        told("beard fame 1 hoard 0;ginger", 2);
        told("   beard   ;   ginger   ", 2);
        told("wearer 9999", 1);
        fault("wearer 10000", 7);
        fault("wearer 99999999999999999999", 7);
        fault("wearer 2147483648", 7);
        fault("wearer 4294967296", 7);
        fault("wearer 18446744073709551616", 7);
        for (int one = 0; one < 256; one++) {
            char c = (char) one;
            if (c == ' ' || c >= '0' && c <= '9') {
                told("beard fame 1" + c, 1);
            } else if (c == ';') {
                fault("beard fame 1" + c, 13);
            } else {
                fault("beard fame 1" + c, 12);
            }
        }
    }

    private void items() {
        e.says(0, "TEXT: ITEM { ; ITEM }");
        told("beard", 1);
        told("beard;beard;beard;beard;beard;beard;beard;beard", 8);
        told("house0fond1;".repeat(9) + "house0fond1", 10);
        fault("", 0);
        fault("    ", 4);
        fault(";", 0);
        fault(";beard", 0);
        fault("beard;", 6);
        fault("beard;;beard", 6);
        fault("beard beard", 6);
        fault("house0fond1;".repeat(10), 120);
    }

    private void beardsAndWearers() {
        e.says(0, "ITEM: the name of a KIND (beard ginger white moustache imperial patriarch), ..");
        BeardHire x = told("beard;ginger;white;moustache;imperial;patriarch", 6);
        for (int k = 0; k < 6; k++) {
            e.is("its KIND", x.of(k, 0), k);
            e.is("its FAME at first", x.of(k, 1), 10);
            e.is("its HOARD at first", x.of(k, 2), 0);
        }
        x = told("beard fame 0;beard fame 99;beard hoard 0;beard hoard 999;beard fame 99 hoard 999", 5);
        int[] fames = {0, 99, 10, 10, 99};
        int[] hoards = {0, 0, 0, 999, 999};
        for (int b = 0; b < 5; b++) {
            e.is("FAME", x.of(b, 1), fames[b]);
            e.is("HOARD", x.of(b, 2), hoards[b]);
        }
        fault("beard fame 100", 11);
        fault("beard hoard 1000", 12);
        fault("beard fame 9 hoard 1000", 19);
        fault("beard hoard 9 fame 9", 14);
        fault("beard fame 9 fame 9", 13);
        fault("beard hoard 9 hoard 9", 14);
        x = told("wearer 0;wearer 9999;wearer 9 round 0;wearer 9 round 5", 4);
        int[] purses = {0, 9999, 9, 9};
        int[] rounds = {0, 1, 0, 5};
        for (int w = 0; w < 4; w++) {
            e.is("PURSE", x.wearerOf(w, 0), purses[w]);
            e.is("ROUND", x.wearerOf(w, 1), rounds[w]);
        }
        fault("wearer 10000", 7);
        fault("wearer 9 round 6", 15);
        fault("wearer 9 round 5 round 5", 17);
        fault("wearer round 5", 7);
    }

    private void housesAndHires() {
        BeardHire x = told("house 0 fond 0;house 1 fond 50;house 4 cross 0;house 5 cross 50", 4);
        int[] moods = {100, 150, 100, 100, 100, 50};
        for (int h = 0; h < 6; h++) {
            e.is("MOOD", x.houseOf(h, 0), moods[h]);
        }
        x = told("house 3 fond 9;house 3 cross 8", 2);
        e.is("MOOD, the latter", x.houseOf(3, 0), 92);
        fault("house 6 fond 1", 6);
        fault("house 0 fond 51", 13);
        fault("house 0 cross 51", 14);
        fault("house 0 9", 8);
        fault("house 0 fond cross 9", 13);
        x = told("wearer 9;wearer 8;beard;ginger;hire 0 1;hire 1 0", 6);
        e.is("what is ON", x.wearerOf(0, 2), 1);
        e.is("what is ON", x.wearerOf(1, 2), 0);
        e.is("nothing is paid", x.now(4), 17);
        fault("hire 0 0", 5);
        fault("beard;hire 0 0", 11);
        fault("wearer 9;hire 0 0", 16);
        fault("wearer 9;hire 0 0;beard", 16);
        fault("beard;hire 0 0;wearer 9", 11);
        fault("wearer 9;beard;hire 1 0", 20);
        fault("wearer 9;beard;hire 0 1", 22);
        fault("wearer 9;beard;beard;hire 0 0;hire 0 1", 35);
        fault("wearer 9;wearer 9;beard;hire 0 0;hire 1 0", 40);
        fault("wearer 9;beard;hire 0 0;hire 0 0", 29);
    }

    private void faults() {
        e.says(0, "FAULT: the place (from 0) of the first byte of the first TOKEN that can't stand there ..");
        fault("100", 0);
        fault("  100", 2);
        fault("beards", 0);
        fault("bear", 0);
        fault("zeard", 0);
        fault("beara", 0);
        fault("bemrd", 0);
        fault("wearer nine", 7);
        fault("wearer ;", 7);
        fault("house zero", 6);
        fault("house 0 found 1", 8);
        fault("hire zero", 5);
        fault("beard fame ginger", 11);
        fault("beard round 1", 6);
        fault("fame 1", 0);
        fault("Beard", 0);
        fault("beard,ginger", 5);
        fault("beard fame 100 \u00ff", 11);
        fault("beard \u00ff fame 100", 6);
        fault("beard;beard;beard;beard;beard;beard;beard;beard;beard fame 100", 48);
        fault("wearer 1;wearer 1;wearer 1;wearer 1;wearer 1;wearer 1;wearer x", 54);
        fault("wearer 1;beard fame 9;house 0 fond 9;hire 0 0;x", 46);
        for (String early : new String[] {
            "beard fame", "beard hoard", "wearer", "wearer 9 round", "house", "house 0", "house 0 fond", "house 0 cross",
            "hire", "wearer 9;hire 0", "wearer 9;beard;hire 0", "beard;"
        }) {
            fault(early, early.length());
            fault(early + " ", early.length() + 1);
            fault(early + " ".repeat(120 - early.length()), 120);
        }
        fault("beard" + " ".repeat(114) + "x", 119);
        fault("beard" + " ".repeat(114) + ";", 120);
        BeardHire x = Scene.full();
        e.is("a 9th in a full shop", Due.shop(x, " moustache"), -1 - 1);
        e.is("a 7th in a full shop", Due.shop(x, " wearer 9"), -1 - 1);
        e.is("one with one ON", Due.shop(x, "hire 0 0"), -1 - 5);
        e.is("one not in the shop", Due.shop(x, "hire 2 1"), -1 - 7);
        e.is("no such wearer", Due.shop(x, "hire 6 0"), -1 - 5);
        e.is("no such beard", Due.shop(x, "hire 5 8"), -1 - 7);
        e.is("the last of both", Due.shop(x, "hire 5 7"), 1);
        e.is("findings", x.status(-1), 0);
    }

    private void feed() {
        e.says(29, "THE TAPE gets the n lowest bytes of a number behind it, the highest of these first (n 1 to 4): how many it has");
        BeardHire x = new BeardHire();
        e.is("1 of 4", x.feed(0xffffff00 | 'w', 1), 1);
        e.is("2 of 4", x.feed(0x80000000 | 'e' << 8 | 'a', 2), 3);
        e.is("3 of 4", x.feed(0x7f000000 | 'r' << 16 | 'e' << 8 | 'r', 3), 6);
        e.is("4 of 4", x.feed('1' << 24 | '2' << 16 | '3' << 8 | '4', 4), 10);
        e.is("shop()", x.shop(), 1);
        e.is("PURSE", x.wearerOf(0, 0), 1234);
        e.is("a number below 0", x.feed(Integer.MIN_VALUE, 4), 4);
        e.is("its first byte is 128", x.shop(), -1);
        Due.feed(x, "beard");
        e.is("a byte of 0", x.feed(0, 1), 6);
        e.is("is no blank", x.shop(), -1 - 5);
        x = Scene.taped(3);
        e.is("3, just as many as there is room for", x.feed(0x202020, 3), 120);
        e.is("shop()", x.shop(), 1);
        e.says(29, "BEYOND: n");
        for (int n : Edges.outside(1, 4)) {
            e.refused("feed(0, " + n + ")", Due.BEYOND, y -> y.feed(0, n));
        }
        e.says(29, "FULL");
        for (int room = 0; room < 4; room++) {
            int free = room;
            for (int many = room + 1; many <= 4; many++) {
                int n = many;
                e.refused(() -> Scene.taped(free), "feed(.., " + n + ") with room for " + free, Due.FULL,
                    y -> y.feed(0x20202020, n));
            }
        }
    }

    private void wipe() {
        e.says(30, "THE TAPE is empty: how many it had");
        BeardHire x = Scene.taped(0);
        e.is("wipe() of 120", x.wipe(), 120);
        e.is("count(2)", x.count(2), 0);
        e.is("wipe() of none", x.wipe(), 0);
        e.is("nothing is left to read", x.shop(), -1);
        Due.feed(x, "beard");
        e.is("it begins anew", x.count(2), 5);
        e.is("shop()", x.shop(), 1);
        e.is("wipe() behind shop()", x.wipe(), 0);
    }

    private void shop() {
        e.says(31, "THE TAPE is THE TEXT of a SHOP, whose ITEMS come to what there is, and empty then: how many ITEMS");
        BeardHire x = Scene.full();
        x.undo();
        e.is("what comes to 4 beards and 3 wearers", Due.shop(x, "white hoard 5;wearer 7;hire 3 4"), 3);
        e.is("the number of the beard", x.of(4, 2), 5);
        e.is("its FAME, as it is at first", x.of(4, 1), 10);
        e.is("the number of the wearer", x.wearerOf(3, 0), 7);
        e.is("its ROUND", x.wearerOf(3, 1), 3);
        e.is("it is ON", x.wearerOf(3, 2), 4);
        e.is("those that were there", x.of(1, 3), 0);
        e.is("count(2)", x.count(2), 0);
        e.is("shop() again", x.shop(), -1);
        e.is("hire one that was there", Due.shop(x, "hire 2 0"), 1);
        x = Scene.taped(0);
        e.is("shop() of 120 bytes", x.shop(), 1);
        e.is("the 5th", x.count(0), 5);

        e.says(31, "With a FAULT: -1 less its place (nothing changes but that THE TAPE is empty; no finding)");
        changesNothing("", -1);
        changesNothing("x", -1);
        changesNothing("moustache fame 9;wearer 9;house 3 fond 9;hire 2 0;hire 3 1", -1 - 57);
        changesNothing("house 0 cross 50;beard;beard;beard;beard;beard", -1 - 41);
        changesNothing("wearer 1;wearer 1;wearer 1;wearer 1", -1 - 27);
        changesNothing("hire 2 2;" + " ".repeat(111), -1 - 120);
    }

    private void changesNothing(String text, int answer) {
        BeardHire x = Scene.busy();
        x.wipe();
        String before = Scene.seen(x) + Scene.sheets(x);
        e.is("shop() of \"" + text + "\"", Due.shop(x, text), answer);
        e.is("count(2)", x.count(2), 0);
        e.is("status(-1)", x.status(-1), 0);
        e.is("what there is", (Scene.seen(x) + Scene.sheets(x)).equals(before) ? 1 : 0, 1);
        BeardHire other = Scene.busy();
        other.wipe();
        e.is("what is kept", Scene.hidden(x).equals(Scene.hidden(other)) ? 1 : 0, 1);
    }
}
