/** Promises 32 to 37: sheet, write, copy, lays, book, read. */
public final class SheetsTest {
    private static final Due DUE = new Due();

    private static void sheet() {
        BeardHire x = new BeardHire();
        DUE.is("32: sheet(0, 8, 40)", x.sheet(0, 8, 40), 40);
        DUE.is("32: sheet(1, 16, 1)", x.sheet(1, 16, 1), 1);
        DUE.is("32: sheet(3, 64, 0)", x.sheet(3, 64, 0), 0);
        DUE.is("32: of no numbers it isn't MISSING", x.write(3, 0, 0), Due.BEYOND);
        DUE.is("32: sheet(2, 0, 40)", x.sheet(2, 0, 40), 0);
        DUE.is("32: it is MISSING", x.write(2, 0, 0), Due.MISSING);
        DUE.is("32: sheet(4, 8, -1)", x.sheet(4, 8, -1), Due.BEYOND);
        DUE.is("32: sheet(-1, 8, 1)", x.sheet(-1, 8, 1), Due.BEYOND);
        DUE.is("32: sheet(0, 32, -1)", x.sheet(0, 32, -1), Due.BEYOND);
        DUE.is("32: sheet(0, -8, 1)", x.sheet(0, -8, 1), Due.BEYOND);
        DUE.is("32: sheet(0, 8, -1)", x.sheet(0, 8, -1), Due.SIZE);
        DUE.is("32: sheet(0, 0, -1)", x.sheet(0, 0, -1), Due.SIZE);
        DUE.is("32: sheet(0, 8, 41)", x.sheet(0, 8, 41), Due.BEYOND);
        DUE.is("32: sheet(0, 0, 41)", x.sheet(0, 0, 41), Due.BEYOND);
        DUE.is("32: it is as it was", x.write(0, 39, 5), 0);
        x.write(0, 0, 5);
        DUE.is("32: sheet(0, 8, 40) again", x.sheet(0, 8, 40), 40);
        DUE.is("32: all are 0 again", x.write(0, 0, 5), 0);
        DUE.is("32: all are 0 again", x.write(0, 39, 5), 0);
        DUE.is("32: sheet(0, 0, 0)", x.sheet(0, 0, 0), 0);
        DUE.is("32: it is MISSING", x.write(0, 39, 5), Due.MISSING);
    }

    private static void write() {
        BeardHire x = new BeardHire();
        long odd = 0x123456789ABCDEF0L;
        x.sheet(0, 8, 2);
        x.sheet(1, 16, 2);
        x.sheet(2, 64, 2);
        for (int s = 0; s < 3; s++) {
            DUE.is("33: write(s, 1, odd)", x.write(s, 1, odd), 0);
        }
        DUE.is("33: 8 bits", x.write(0, 1, 127), (byte) 0xF0);
        DUE.is("33: 16 bits", x.write(1, 1, 32767), (short) 0xDEF0);
        DUE.is("33: 64 bits", x.write(2, 1, Due.BEYOND), odd);
        DUE.is("33: 8 bits", x.write(0, 1, -1), 127);
        DUE.is("33: 16 bits", x.write(1, 1, -1), 32767);
        DUE.is("33: a number like a finding", x.write(2, 1, Long.MIN_VALUE), Due.BEYOND);
        DUE.is("33: which is none", x.status(-1), 0);
        DUE.is("33: 8 bits", x.write(0, 1, 0), -1);
        DUE.is("33: 16 bits", x.write(1, 1, 0), -1);
        DUE.is("33: 64 bits", x.write(2, 1, 0), Long.MIN_VALUE);
        DUE.is("33: the other one", x.write(2, 0, 0), 0);
        DUE.is("33: write(4, 0, 0)", x.write(4, 0, 0), Due.BEYOND);
        DUE.is("33: write(-1, 0, 0)", x.write(-1, 0, 0), Due.BEYOND);
        DUE.is("33: write(3, 99, 0)", x.write(3, 99, 0), Due.MISSING);
        DUE.is("33: write(0, 2, 0)", x.write(0, 2, 0), Due.BEYOND);
        DUE.is("33: write(0, -1, 0)", x.write(0, -1, 0), Due.BEYOND);
    }

    private static BeardHire numbered(int s, int n) {
        BeardHire x = new BeardHire();
        x.sheet(s, 16, n);
        for (int i = 0; i < n; i++) {
            x.write(s, i, i + 1);
        }
        return x;
    }

    private static void row(String call, BeardHire x, int s, int... want) {
        for (int i = 0; i < want.length; i++) {
            DUE.is(call + ", number " + i, x.write(s, i, 0), want[i]);
        }
        DUE.is(call + ", no more", x.write(s, want.length, 0), Due.BEYOND);
    }

    private static void copy() {
        BeardHire x = numbered(1, 5);
        x.sheet(2, 16, 3);
        DUE.is("34: copy(1, 3, 2, 0, 2)", x.copy(1, 3, 2, 0, 2), 2);
        row("34: copied to another", x, 2, 4, 5, 0);
        row("34: copied from one", x, 1, 1, 2, 3, 4, 5);
        x = numbered(0, 5);
        DUE.is("34: copy(0, 0, 0, 1, 4)", x.copy(0, 0, 0, 1, 4), 4);
        row("34: upwards", x, 0, 1, 1, 2, 3, 4);
        x = numbered(0, 5);
        DUE.is("34: copy(0, 1, 0, 0, 4)", x.copy(0, 1, 0, 0, 4), 4);
        row("34: downwards", x, 0, 2, 3, 4, 5, 5);
        x = numbered(0, 40);
        x.sheet(1, 16, 40);
        DUE.is("34: copy(0, 0, 1, 0, 40)", x.copy(0, 0, 1, 0, 40), 40);
        DUE.is("34: all of them", x.write(1, 39, 0), 40);
        x = numbered(0, 5);
        x.sheet(1, 16, 3);
        x.sheet(2, 8, 3);
        DUE.is("34: copy(0, 5, 1, 3, 0)", x.copy(0, 5, 1, 3, 0), 0);
        DUE.is("34: copy(4, ..)", x.copy(4, -1, 0, 0, 0), Due.BEYOND);
        DUE.is("34: copy(.., -1, ..)", x.copy(3, 0, -1, 0, 0), Due.BEYOND);
        DUE.is("34: copy(3, ..)", x.copy(3, -1, 0, 0, 0), Due.MISSING);
        DUE.is("34: copy(.., 3, ..)", x.copy(2, -1, 3, 0, 0), Due.MISSING);
        DUE.is("34: 16 to 8 bits", x.copy(0, -1, 2, 0, 0), Due.KIND);
        DUE.is("34: none of 16 to 8 bits", x.copy(0, 0, 2, 0, 0), Due.KIND);
        DUE.is("34: from -1", x.copy(0, -1, 1, 0, 1), Due.BEYOND);
        DUE.is("34: to -1", x.copy(0, 0, 1, -1, 1), Due.BEYOND);
        DUE.is("34: -1 of them", x.copy(0, 1, 1, 1, -1), Due.BEYOND);
        DUE.is("34: from has one too few", x.copy(0, 3, 1, 0, 3), Due.BEYOND);
        DUE.is("34: to has one too few", x.copy(0, 0, 1, 1, 3), Due.BEYOND);
        DUE.is("34: from far off", x.copy(0, Integer.MAX_VALUE, 1, 0, 1), Due.BEYOND);
        DUE.is("34: very many", x.copy(0, 1, 1, 1, Integer.MAX_VALUE), Due.BEYOND);
        DUE.is("34: none from far off", x.copy(0, 6, 1, 0, 0), Due.BEYOND);
        DUE.is("34: none to far off", x.copy(0, 0, 1, 4, 0), Due.BEYOND);
        row("34: nothing came", x, 1, 0, 0, 0);
    }

    private static void lays() {
        BeardHire x = Due.told("wearer 1;wearer 2;wearer 3;wearer 4");
        x.sheet(0, 64, 6);
        long[] purses = {9999, 10000, -1, 0, 5, 6};
        for (int i = 0; i < 6; i++) {
            x.write(0, i, purses[i]);
        }
        DUE.is("35: lays(0)", x.lays(0), 2);
        DUE.is("35: wearerOf(0, 0)", x.wearerOf(0, 0), 9999);
        DUE.is("35: wearerOf(1, 0)", x.wearerOf(1, 0), 2);
        DUE.is("35: wearerOf(2, 0)", x.wearerOf(2, 0), 3);
        DUE.is("35: wearerOf(3, 0)", x.wearerOf(3, 0), 0);
        x.wearer(7);
        DUE.is("35: a 5th number for a 5th", x.lays(0), 3);
        DUE.is("35: wearerOf(4, 0)", x.wearerOf(4, 0), 5);
        x.write(0, 0, 4294967296L);
        DUE.is("35: a number that an int would take for 0", x.lays(0), 2);
        x.sheet(1, 8, 1);
        DUE.is("35: fewer numbers than wearers", x.lays(1), 1);
        DUE.is("35: wearerOf(0, 0)", x.wearerOf(0, 0), 0);
        DUE.is("35: lays(2)", x.lays(2), Due.MISSING);
        DUE.is("35: lays(4)", x.lays(4), Due.BEYOND);
        DUE.is("35: lays(-1)", x.lays(-1), Due.BEYOND);
    }

    private static void book() {
        BeardHire x = Due.told("beard;wearer 13;wearer 300;hire 0 0");
        x.sheet(0, 64, 5);
        x.on(0, 2, 0);
        DUE.is("36: book(0, 0)", x.book(0, 0), 5);
        row("36: what is in it", x, 0, 13, 8, 3, 3, 3);
        DUE.is("36: nothing changes", x.now(0), 0);
        DUE.is("36: nothing changes", x.wearerOf(0, 0), 13);
        x.sheet(1, 8, 1);
        DUE.is("36: book(1, 1), its lowest bits", x.book(1, 1), 1);
        row("36: what is in it", x, 1, 44);
        x.sheet(1, 8, 0);
        DUE.is("36: book(1, 0) of none", x.book(1, 0), 0);
        x.sheet(1, 8, 40);
        DUE.is("36: book(1, 0) of 40", x.book(1, 0), 40);
        DUE.is("36: the last of them", x.write(1, 39, 0), 3);
        DUE.is("36: book(4, 0)", x.book(4, 0), Due.BEYOND);
        DUE.is("36: book(-1, 0)", x.book(-1, 0), Due.BEYOND);
        DUE.is("36: book(3, 9)", x.book(3, 9), Due.MISSING);
        DUE.is("36: book(0, 2)", x.book(0, 2), Due.BEYOND);
        DUE.is("36: book(0, -1)", x.book(0, -1), Due.BEYOND);
    }

    private static void read() {
        BeardHire x = Due.told("beard;wearer 100;wearer 7;hire 0 0;house 2 fond 50");
        x.recall(2, 0);
        x.sheet(0, 16, 0);
        DUE.is("37: read of none", x.read(0, 0, 0), 36);
        x.sheet(0, 16, 2);
        x.write(0, 0, 100);
        x.write(0, 1, 95);
        DUE.is("37: BEARD, anywhere but in house 2", x.read(0, 0, 0), 5);
        x.write(0, 1, 100);
        DUE.is("37: BEARD in house 2", x.read(0, 0, 0), 1);
        x.write(0, 1, 98);
        DUE.is("37: IMPERIAL in house 2 is 103, PATRIARCH 98", x.read(0, 0, 0), 1);
        x.write(0, 1, 82);
        DUE.is("37: WHITE, anywhere but in house 2", x.read(0, 0, 0), 5);
        x.write(0, 0, 99);
        DUE.is("37: the first is PURSE now", x.read(0, 0, 0), 0);
        x.write(0, 0, 7);
        x.write(0, 1, 7);
        DUE.is("37: one with none ON", x.read(0, 1, 0), 36);
        DUE.is("37: nothing changes", x.of(0, 0), 0);
        DUE.is("37: nothing changes", x.wearerOf(1, 1), 1);
        x.sheet(1, 8, 1);
        x.give(0, 0, 200);
        x.book(1, 0);
        DUE.is("37: 200 is no number of 8 bits", x.read(1, 0, 0), 0);
        DUE.is("37: read(4, 0, 0)", x.read(4, 0, 0), Due.BEYOND);
        DUE.is("37: read(-1, 0, 0)", x.read(-1, 0, 0), Due.BEYOND);
        DUE.is("37: read(3, 9, 9)", x.read(3, 9, 9), Due.MISSING);
        DUE.is("37: read(0, 2, 0)", x.read(0, 2, 0), Due.BEYOND);
        DUE.is("37: read(0, -1, 0)", x.read(0, -1, 0), Due.BEYOND);
        DUE.is("37: read(0, 0, 1)", x.read(0, 0, 1), Due.BEYOND);
        DUE.is("37: read(0, 0, -1)", x.read(0, 0, -1), Due.BEYOND);
    }

    public static void main(String[] args) {
        sheet();
        write();
        copy();
        lays();
        book();
        read();
        DUE.end();
    }
}
