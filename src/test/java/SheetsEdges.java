/** The sentences of promises 32 to 37. */
final class SheetsEdges {
    private static final int[] BITS = {8, 16, 64};

    private final Edges e;

    private SheetsEdges(Edges e) {
        this.e = e;
    }

    static void run(Edges e) {
        SheetsEdges s = new SheetsEdges(e);
        s.sheet();
        s.write();
        s.copy();
        s.refusedCopies();
        s.lays();
        s.book();
        s.read();
    }

    private void sheet() {
        e.says(32, "A sheet has n numbers, all 0, of 8, 16 or 64 bits; bits 0: it is MISSING: n (0 if it is MISSING)");
        for (int bits : BITS) {
            BeardHire x = new BeardHire();
            for (int s : new int[] {0, 3}) {
                e.is("sheet(" + s + ", " + bits + ", 0)", x.sheet(s, bits, 0), 0);
                e.is("it has no number", x.write(s, 0, 1), Due.BEYOND);
                e.is("but is there", x.lays(s), 0);
                e.is("sheet(" + s + ", " + bits + ", 40)", x.sheet(s, bits, 40), 40);
                for (int i = 0; i < 40; i++) {
                    e.is("number " + i, x.write(s, i, -1), 0);
                }
                e.is("number 40", x.write(s, 40, 1), Due.BEYOND);
                e.is("of 1 now", x.sheet(s, bits, 1), 1);
                e.is("it is 0 again", x.write(s, 0, 1), 0);
                e.is("of 40 again", x.sheet(s, bits, 40), 40);
                e.is("the first is 0 again", x.write(s, 0, 1), 0);
                e.is("the second is 0 again", x.write(s, 1, 1), 0);
                e.is("the last is 0 again", x.write(s, 39, 1), 0);
                e.is("sheet(" + s + ", 0, 40)", x.sheet(s, 0, 40), 0);
                e.is("it is MISSING", x.write(s, 0, 1), Due.MISSING);
                e.is("sheet(" + s + ", 0, 0) again", x.sheet(s, 0, 0), 0);
                e.is("it is MISSING still", x.lays(s), Due.MISSING);
            }
        }
        e.says(32, "BEYOND: no such sheet, other bits");
        for (int s : Edges.outside(0, 3)) {
            e.refused("sheet(" + s + ", 8, 1)", Due.BEYOND, y -> y.sheet(s, 8, 1));
            e.refused("sheet(" + s + ", 0, 0)", Due.BEYOND, y -> y.sheet(s, 0, 0));
        }
        for (int bits : new int[] {Integer.MIN_VALUE, -64, -8, -1, 1, 7, 9, 15, 17, 32, 63, 65, 128, Integer.MAX_VALUE}) {
            e.refused("sheet(0, " + bits + ", 1)", Due.BEYOND, y -> y.sheet(0, bits, 1));
        }
        for (int bits : new int[] {0, 8, 16, 64}) {
            e.says(32, "SIZE: n is below 0 (also with bits 0)");
            e.refused("sheet(0, " + bits + ", -1)", Due.SIZE, y -> y.sheet(0, bits, -1));
            e.refused("sheet(3, " + bits + ", least)", Due.SIZE, y -> y.sheet(3, bits, Integer.MIN_VALUE));
            e.says(32, "BEYOND: n is above 40 (also with bits 0)");
            e.refused("sheet(0, " + bits + ", 41)", Due.BEYOND, y -> y.sheet(0, bits, 41));
            e.refused("sheet(3, " + bits + ", most)", Due.BEYOND, y -> y.sheet(3, bits, Integer.MAX_VALUE));
        }
    }

    /** Writes each v and asks for what it became: two numbers each. */
    private void becomes(int bits, long... told) {
        BeardHire x = new BeardHire();
        x.sheet(3, bits, 40);
        for (int i = 0; i < told.length; i += 2) {
            x.write(3, 39, told[i]);
            e.is(told[i] + " in " + bits + " bits", x.write(3, 39, 0), told[i + 1]);
        }
        e.is("the one before", x.write(3, 38, 0), 0);
        e.is("findings", x.status(-1), 0);
    }

    private void write() {
        e.says(33, "Number i of a sheet becomes v (its lowest bits): what it was");
        becomes(8, 127, 127, 128, -128, 255, -1, 256, 0, 257, 1, -128, -128, -129, 127, -256, 0,
            Long.MAX_VALUE, -1, Long.MIN_VALUE, 0, 0x7f00L, 0);
        becomes(16, 32767, 32767, 32768, -32768, 65535, -1, 65536, 0, 65537, 1, -32768, -32768, -32769, 32767,
            Long.MAX_VALUE, -1, Long.MIN_VALUE, 0, 9999, 9999);
        becomes(64, Long.MAX_VALUE, Long.MAX_VALUE, Long.MIN_VALUE, Long.MIN_VALUE, 1L << 32, 1L << 32, -1, -1,
            -1000000007L, -1000000007L);
        e.says(33, "BEYOND: no such sheet");
        for (int s : Edges.outside(0, 3)) {
            e.refused("write(" + s + ", 0, 1)", Due.BEYOND, y -> y.write(s, 0, 1));
        }
        e.says(33, "MISSING");
        for (int i : new int[] {Integer.MIN_VALUE, -1, 0, 40, Integer.MAX_VALUE}) {
            e.refused("write(3, " + i + ", 1)", Due.MISSING, y -> y.write(3, i, 1));
        }
        e.says(33, "BEYOND: no such number");
        for (int i : Edges.outside(0, 2)) {
            e.refused("write(1, " + i + ", 1)", Due.BEYOND, y -> y.write(1, i, 1));
        }
        e.is("write(0, 0, 1), of no numbers", none().write(0, 0, 1), Due.BEYOND);
    }

    private static BeardHire none() {
        BeardHire x = new BeardHire();
        x.sheet(0, 64, 0);
        return x;
    }

    /** Sheet 1 with numbers 1 to 5, sheet 2 with 0, 0, 0, of so many bits. */
    private static BeardHire two(int bits) {
        BeardHire x = new BeardHire();
        x.sheet(1, bits, 5);
        x.sheet(2, bits, 3);
        for (int i = 0; i < 5; i++) {
            x.write(1, i, i + 1);
        }
        return x;
    }

    private void row(BeardHire x, int s, int... want) {
        for (int i = 0; i < want.length; i++) {
            e.is("number " + i + " of sheet " + s, x.write(s, i, 0), want[i]);
        }
        e.is("no more of sheet " + s, x.write(s, want.length, 0), Due.BEYOND);
    }

    private void copy() {
        e.says(34, "n numbers of a sheet from one on come to another one from one on (as they all were): n");
        for (int bits : BITS) {
            BeardHire x = two(bits);
            e.is("all of sheet 2", x.copy(1, 2, 2, 0, 3), 3);
            row(x, 2, 3, 4, 5);
            row(x, 1, 1, 2, 3, 4, 5);
            x = two(bits);
            e.is("the last one", x.copy(1, 4, 2, 2, 1), 1);
            row(x, 2, 0, 0, 5);
            x = two(bits);
            e.is("none from behind the last", x.copy(1, 5, 2, 3, 0), 0);
            row(x, 2, 0, 0, 0);
            x = two(bits);
            e.is("upwards over itself", x.copy(1, 0, 1, 1, 4), 4);
            row(x, 1, 1, 1, 2, 3, 4);
            x = two(bits);
            e.is("downwards over itself", x.copy(1, 1, 1, 0, 4), 4);
            row(x, 1, 2, 3, 4, 5, 5);
            x = two(bits);
            e.is("all to itself", x.copy(1, 0, 1, 0, 5), 5);
            row(x, 1, 1, 2, 3, 4, 5);
        }
        BeardHire x = none();
        e.is("none of none", x.copy(0, 0, 0, 0, 0), 0);
        x.sheet(2, 64, 40);
        x.sheet(3, 64, 40);
        x.write(2, 0, Long.MIN_VALUE);
        x.write(2, 39, Long.MAX_VALUE);
        e.is("40 of 40", x.copy(2, 0, 3, 0, 40), 40);
        e.is("the first of 40", x.write(3, 0, 0), Long.MIN_VALUE);
        e.is("the last of 40", x.write(3, 39, 0), Long.MAX_VALUE);
    }

    private void refusedCopies() {
        e.says(34, "BEYOND: no such sheet (either)");
        for (int s : Edges.outside(0, 3)) {
            e.refused("copy(" + s + ", 0, 0, 0, 1)", Due.BEYOND, y -> y.copy(s, 0, 0, 0, 1));
            e.refused("copy(0, 0, " + s + ", 0, 1)", Due.BEYOND, y -> y.copy(0, 0, s, 0, 1));
        }
        e.says(34, "MISSING: one is");
        e.refused("copy(3, 0, 0, 0, 0)", Due.MISSING, y -> y.copy(3, 0, 0, 0, 0));
        e.refused("copy(0, 0, 3, 0, 0)", Due.MISSING, y -> y.copy(0, 0, 3, 0, 0));
        e.refused("copy(3, 0, 3, 0, 0)", Due.MISSING, y -> y.copy(3, 0, 3, 0, 0));
        e.says(34, "KIND: they are not of as many bits");
        for (int s = 0; s < 3; s++) {
            for (int t = 0; t < 3; t++) {
                int from = s;
                int to = t;
                if (s != t) {
                    e.refused("copy(" + s + ", 0, " + t + ", 0, 1)", Due.KIND, y -> y.copy(from, 0, to, 0, 1));
                    e.refused("copy(" + s + ", 0, " + t + ", 0, 0)", Due.KIND, y -> y.copy(from, 0, to, 0, 0));
                }
            }
        }
        e.says(34, "BEYOND: one has not so many, or from, to or n is below 0");
        int least = Integer.MIN_VALUE;
        int most = Integer.MAX_VALUE;
        int[][] spans = {
            {-1, 0, 1}, {0, -1, 1}, {0, 0, -1}, {1, 1, -1}, {-1, 0, 0}, {0, -1, 0}, {1, 0, 3}, {0, 1, 3}, {0, 0, 4}, {3, 0, 1},
            {0, 3, 1}, {4, 0, 0}, {0, 4, 0}, {least, 0, 1}, {0, least, 1}, {0, 0, least}, {most, 0, 1}, {0, most, 1},
            {0, 0, most}, {most, 0, most}, {0, most, most}, {most, most, most}, {least, least, least}, {1, 1, most},
            {most, 0, 0}, {4, 0, -1}
        };
        for (int[] span : spans) {
            e.refused("copy(1, " + span[0] + ", 1, " + span[1] + ", " + span[2] + ")", Due.BEYOND,
                y -> y.copy(1, span[0], 1, span[1], span[2]));
        }
        BeardHire x = two(16);
        e.is("the one it comes to has not so many", x.copy(1, 0, 2, 0, 4), Due.BEYOND);
        e.is("the one it comes from has not so many", x.copy(2, 0, 1, 0, 4), Due.BEYOND);
        row(x, 2, 0, 0, 0);
        row(x, 1, 1, 2, 3, 4, 5);
    }

    private void lays() {
        e.says(35, "Numbers of a sheet become PURSES of WEARERS 0, 1, .. (those that aren't 0 to 9999, or stand for none, ..");
        BeardHire x = Scene.full();
        x.sheet(3, 64, 40);
        long[] numbers = {0, 9999, 10000, -1, 4294967296L, Long.MIN_VALUE, 5};
        for (int i = 0; i < numbers.length; i++) {
            x.write(3, i, numbers[i]);
        }
        e.is("lays(3), two of six, and 34 that stand for none", x.lays(3), 2);
        int[] purses = {0, 9999, 40, 30, 40, 50};
        for (int w = 0; w < 6; w++) {
            e.is("PURSE of " + w, x.wearerOf(w, 0), purses[w]);
        }
        x.sheet(3, 8, 2);
        x.write(3, 0, 127);
        x.write(3, 1, 128);
        e.is("lays(3) of 127 and -128", x.lays(3), 1);
        e.is("PURSE of 0", x.wearerOf(0, 0), 127);
        e.is("PURSE of 1", x.wearerOf(1, 0), 9999);
        x.sheet(3, 16, 6);
        e.is("lays(3) of six", x.lays(3), 6);
        e.is("PURSES", x.now(4), 0);
        x.sheet(3, 16, 0);
        e.is("lays(3) of no numbers", x.lays(3), 0);
        e.is("lays(0) for nobody", none().lays(0), 0);
        x = new BeardHire();
        x.sheet(0, 64, 40);
        e.is("lays(0) of 40 for nobody", x.lays(0), 0);
        e.says(35, "BEYOND: no such sheet");
        for (int s : Edges.outside(0, 3)) {
            e.refused("lays(" + s + ")", Due.BEYOND, y -> y.lays(s));
        }
        e.says(35, "MISSING");
        e.refused("lays(3)", Due.MISSING, y -> y.lays(3));
    }

    private void book() {
        e.says(36, "A book: PURSE of a wearer 0, 1, 2, .. NIGHTS AHEAD comes to a sheet, as many as it has numbers: how many");
        BeardHire x = NightsEdges.draining(9999);
        x.sheet(3, 64, 40);
        e.is("book(3, 0) of 40", x.book(3, 0), 40);
        for (int i = 0; i < 40; i++) {
            e.is("number " + i, x.write(3, i, 0), 9999 - 23 * i);
        }
        e.is("NIGHT is the same", x.now(0), 0);
        e.is("PURSE is the same", x.wearerOf(0, 0), 9999);
        e.is("book(3, 1), none ON", x.book(3, 1), 40);
        e.is("the last number", x.write(3, 39, 0), 3);
        x.sheet(3, 64, 0);
        e.is("book(3, 0) of none", x.book(3, 0), 0);
        x.sheet(3, 8, 3);
        x.give(0, 0, 150);
        e.is("book(3, 0) in 8 bits", x.book(3, 0), 3);
        row(x, 3, -106, 127, 104);
        x.sheet(3, 16, 1);
        x.give(0, 0, 9999);
        e.is("book(3, 0) in 16 bits", x.book(3, 0), 1);
        row(x, 3, 9999);
        e.says(36, "BEYOND: no such sheet");
        for (int s : Edges.outside(0, 3)) {
            e.refused("book(" + s + ", 0)", Due.BEYOND, y -> y.book(s, 0));
        }
        e.says(36, "MISSING");
        e.refused("book(3, 0)", Due.MISSING, y -> y.book(3, 0));
        e.says(36, "BEYOND: wearer");
        for (int w : Edges.outside(0, 2)) {
            e.refused("book(1, " + w + ")", Due.BEYOND, y -> y.book(1, w));
        }
        e.is("book(0, 0) of none, for nobody", none().book(0, 0), Due.BEYOND);
    }

    private void read() {
        e.says(37, "THE READER: numbers of a sheet are PURSE of a wearer 0, 1, 2, .. NIGHTS AHEAD: ..");
        BeardHire x = NightsEdges.draining(5000);
        x.sheet(3, 64, 0);
        e.is("of no numbers", x.read(3, 0, 0), 36);
        x.sheet(3, 64, 1);
        e.is("of one that it is not", x.read(3, 0, 0), 0);
        x.write(3, 0, 5000);
        e.is("of PURSE now", x.read(3, 0, 0), 36);
        x.write(3, 0, 5000L + (1L << 32));
        e.is("of one that an int would take for it", x.read(3, 0, 0), 0);
        x.sheet(3, 64, 40);
        x.book(3, 0);
        e.is("of all 40, GINGER in any ROUND", x.read(3, 0, 0), 6);
        e.is("of all 40, any KIND of the other in any ROUND", x.read(3, 0, 1), 36);
        x.write(3, 39, 5000 - 23 * 39 - 1);
        e.is("but for the last", x.read(3, 0, 0), 0);
        x.recall(5, -1);
        x.sheet(3, 16, 2);
        x.write(3, 0, 5000);
        x.write(3, 1, 5000 - 18);
        // GINGER in house 5, where it isn't REMEMBERED; WHITE anywhere
        e.is("of GINGER in ROUND 5, and of WHITE in all", x.read(3, 0, 0), 7);
        x = Due.told("ginger fame 99;wearer 9;wearer 100;hire 1 0");
        x.mood(4, -50);
        x.recall(4, 0);
        x.sheet(3, 16, 2);
        x.write(3, 0, 100);
        x.write(3, 1, 100 - 23);
        e.is("of GINGER in ROUND 4, of wearer 1", x.read(3, 1, 0), 1);
        x.sheet(3, 8, 1);
        x.give(0, 0, 127);
        x.write(3, 0, 127);
        e.is("127 in 8 bits", x.read(3, 0, 0), 36);
        x.give(0, 0, 128);
        x.write(3, 0, 128);
        e.is("128 in 8 bits, that is -128", x.read(3, 0, 0), 0);
        e.says(37, "BEYOND: no such sheet");
        for (int s : Edges.outside(0, 3)) {
            e.refused("read(" + s + ", 0, 0)", Due.BEYOND, y -> y.read(s, 0, 0));
        }
        e.says(37, "MISSING");
        e.refused("read(3, 0, 0)", Due.MISSING, y -> y.read(3, 0, 0));
        e.says(37, "BEYOND: wearer, beard");
        for (int w : Edges.outside(0, 2)) {
            e.refused("read(1, " + w + ", 0)", Due.BEYOND, y -> y.read(1, w, 0));
        }
        for (int b : Edges.outside(0, 3)) {
            e.refused("read(1, 0, " + b + ")", Due.BEYOND, y -> y.read(1, 0, b));
        }
        e.is("read(0, 0, 0) of none, for nobody", none().read(0, 0, 0), Due.BEYOND);
    }
}
