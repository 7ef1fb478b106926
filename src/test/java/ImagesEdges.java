/** The sentences of promises 38 to 42. */
final class ImagesEdges {
    private final Edges e;

    private ImagesEdges(Edges e) {
        this.e = e;
    }

    static void run(Edges e) {
        ImagesEdges i = new ImagesEdges(e);
        i.image();
        i.undo();
        i.tear();
        i.count();
        i.status();
    }

    private void image() {
        e.says(38, "All that section 1 tells (THE TAPE not) is kept: 1");
        BeardHire x = new BeardHire();
        e.is("image() of an empty shop", x.image(), 1);
        Due.shop(x, "beard;wearer 9;house 0 fond 5");
        x.recall(0, 0);
        x.nights(1);
        e.is("undo()", x.undo(), 0);
        e.is("all is as it was", Scene.seen(x).equals(Scene.seen(new BeardHire())) ? 1 : 0, 1);
        x = Scene.full();
        String before = Scene.seen(x);
        e.is("image() of a full shop", x.image(), 1);
        e.is("nothing changes", Scene.seen(x).equals(before) ? 1 : 0, 1);
        changeAll(x);
        e.is("undo()", x.undo(), 8);
        e.is("all is as it was", Scene.seen(x).equals(before) ? 1 : 0, 1);
        x.feed(' ', 1);
        x.write(0, 1, 9);
        x.undo();
        e.is("THE TAPE is not kept", x.count(2), 5);
        e.is("nor are the sheets", x.write(0, 1, 0), 9);
    }

    private static void changeAll(BeardHire x) {
        x.nights(30);
        for (int i = 0; i < 6; i++) {
            x.mood(i, 7 * i - 20);
            x.recall(i, 7 - i);
            x.give(i, 0, 1000 + i);
            x.give(i, 1, 5 - i);
        }
        for (int b = 0; b < 8; b++) {
            x.back(b);
            x.turn(b, (x.of(b, 0) + 1) % 6);
            x.set(b, 1, 60 + b);
            x.set(b, 2, 600 + b);
        }
        x.hire(5, 0);
    }

    private void undo() {
        e.says(39, "It becomes what was kept latest (which stays): how many beards");
        BeardHire x = Scene.busy();
        for (int time = 0; time < 3; time++) {
            x.beard(0);
            x.nights(1);
            e.is("undo()", x.undo(), 4);
            e.is("NIGHT", x.now(0), 0);
            e.is("PURSES", x.now(4), 340);
        }
        x.beard(0);
        x.image();
        x.beard(0);
        e.is("undo() to the latest", x.undo(), 5);
        e.is("undo() to the same", x.undo(), 5);
        e.is("the number of the next", x.beard(2), 5);
        e.is("what it did before is undone", x.of(5, 1), 10);
        x = new BeardHire();
        x.image();
        e.is("undo() of an empty shop", x.undo(), 0);
        x = Scene.full();
        x.image();
        e.is("undo() of a full shop", x.undo(), 8);
        x = new BeardHire();
        x.image();
        x.beard(0);
        x.recall(0, 0);
        x.wearer(9);
        x.undo();
        e.is("a beard that is no more", x.of(0, 0), Due.BEYOND);
        e.is("REMEMBERED no more", x.houseOf(0, 1), -1);
        e.is("a wearer that is no more", x.wearerOf(0, 0), Due.BEYOND);
        e.is("goes to no HOUSE", x.houseOf(0, 2), 0);
        e.says(39, "NONE: nothing is kept");
        e.refused(ImagesEdges::busyWithoutImage, "undo()", Due.NONE, BeardHire::undo);
        e.refused(BeardHire::new, "undo()", Due.NONE, BeardHire::undo);
    }

    private static BeardHire busyWithoutImage() {
        BeardHire x = Scene.busy();
        x.tear();
        return x;
    }

    private void tear() {
        e.says(40, "Nothing is kept: 1 if something was, else 0");
        BeardHire x = Scene.busy();
        String before = Scene.seen(x);
        x.image();
        e.is("tear() of two", x.tear(), 1);
        e.is("nothing else changes", Scene.seen(x).equals(before) ? 1 : 0, 1);
        e.is("undo()", x.undo(), Due.NONE);
        e.is("tear() of nothing", x.tear(), 0);
        e.is("tear() is no finding", x.status(-1), 1);
        x.image();
        x.undo();
        e.is("tear() behind undo()", x.tear(), 1);
        e.is("tear() on a new object", new BeardHire().tear(), 0);
    }

    private void count() {
        e.says(41, "0 beards, 1 wearers, 2 bytes of THE TAPE, 3 HOARDS of all together");
        BeardHire x = new BeardHire();
        for (int what = 0; what < 4; what++) {
            e.is("count(" + what + ") of nothing", x.count(what), 0);
        }
        x = Scene.full();
        for (int b = 0; b < 8; b++) {
            x.set(b, 2, 999);
        }
        x.wipe();
        Due.feed(x, " ".repeat(120));
        int[] most = {8, 6, 120, 7992};
        for (int what = 0; what < 4; what++) {
            e.is("count(" + what + ") of all", x.count(what), most[what]);
        }
        e.says(41, "BEYOND: another what");
        for (int what : Edges.outside(0, 3)) {
            e.refused("count(" + what + ")", Due.BEYOND, y -> y.count(what));
        }
    }

    private void status() {
        e.says(42, "How many acts answered a finding ever (undo() takes none back): which -1: all, 0 to 6: BEYOND to SIZE");
        BeardHire x = Scene.full();
        for (int which = -1; which < 7; which++) {
            e.is("status(" + which + ") at first", x.status(which), 0);
        }
        Edges.Call[] acts = {
            y -> y.now(5), y -> y.beard(0), y -> y.as(0, 5), y -> y.falls(2, 0), y -> y.back(0), y -> y.lays(3),
            y -> y.sheet(0, 0, -1)
        };
        for (int which = 0; which < 7; which++) {
            for (int time = 0; time <= which; time++) {
                e.is("a finding", acts[which].of(x), Due.BEYOND - which);
            }
        }
        e.is("a finding in longs", x.write(3, 0, 0), Due.MISSING);
        x.undo();
        int[] counted = {29, 1, 2, 3, 4, 5, 7, 7};
        for (int which = -1; which < 7; which++) {
            e.is("status(" + which + ")", x.status(which), counted[which + 1]);
        }
        e.is("a FAULT", Due.shop(x, "x"), -1);
        e.is("is none", x.status(-1), 29);
        e.says(42, "BEYOND (counted from then on): another one");
        for (int which : Edges.outside(-1, 6)) {
            e.refused("status(" + which + ")", Due.BEYOND, y -> y.status(which));
        }
        x = new BeardHire();
        e.is("status(7)", x.status(7), Due.BEYOND);
        e.is("status(0), with that", x.status(0), 1);
        e.is("status(-2)", x.status(-2), Due.BEYOND);
        e.is("status(-1), with both", x.status(-1), 2);
    }
}
