/** The sentences of promises 6 to 11. */
final class BeardsEdges {
    private final Edges e;

    private BeardsEdges(Edges e) {
        this.e = e;
    }

    static void run(Edges e) {
        BeardsEdges b = new BeardsEdges(e);
        b.beard();
        b.of();
        b.can();
        b.set();
        b.turn();
        b.as();
    }

    private void beard() {
        e.says(6, "One more, in the shop: the number");
        BeardHire x = new BeardHire();
        e.is("the first", x.beard(0), 0);
        for (int i = 1; i < 7; i++) {
            x.beard(i % 6);
        }
        e.is("the last that may be", x.beard(5), 7);
        e.is("its KIND", x.of(7, 0), 5);
        e.is("it is in the shop", x.of(7, 3), -1);
        e.is("count(0)", x.count(0), 8);
        freshBehindUndo();
        e.says(6, "BEYOND: kind");
        for (int k : Edges.outside(0, 5)) {
            e.refused("beard(" + k + ")", Due.BEYOND, y -> y.beard(k));
        }
        e.says(6, "FULL");
        for (int kind = 0; kind < 6; kind++) {
            int k = kind;
            e.refused(Scene::full, "beard(" + k + "), a 9th", Due.FULL, y -> y.beard(k));
        }
        x = Scene.full();
        x.undo();
        e.is("no more FULL behind undo()", x.beard(0), 4);
    }

    /** What an undone beard was must not be left to the next one of its number. */
    private void freshBehindUndo() {
        BeardHire x = new BeardHire();
        x.wearer(50);
        x.image();
        x.beard(5);
        x.set(0, 1, 77);
        x.set(0, 2, 777);
        x.hire(0, 0);
        x.undo();
        e.is("the number behind undo()", x.beard(0), 0);
        e.is("its KIND", x.of(0, 0), 0);
        e.is("its FAME", x.of(0, 1), 10);
        e.is("its HOARD", x.of(0, 2), 0);
        e.is("ON whom it is", x.of(0, 3), -1);
    }

    private void of() {
        e.says(7, "Of one: what 0 KIND, 1 FAME, 2 HOARD, 3 ON whom (-1), 4 COSTS, 5 100 and GAINS in this NIGHT");
        BeardHire x = Scene.full();
        x.turn(7, 5);
        x.set(7, 1, 0);
        x.set(7, 2, 999);
        x.hire(5, 7);
        int[] most = {5, 0, 999, 5, 31, 99};
        for (int what = 0; what < 6; what++) {
            e.is("of(7, " + what + ")", x.of(7, what), most[what]);
        }
        x.back(7);
        x.turn(7, 4);
        x.set(7, 1, 99);
        x.set(7, 2, 0);
        int[] other = {4, 99, 0, -1, 28, 103};
        for (int what = 0; what < 6; what++) {
            e.is("of(7, " + what + ") then", x.of(7, what), other[what]);
        }
        x.nights(4);
        e.is("GAINS on the MONDAY", x.of(7, 5), 100);
        e.says(7, "BEYOND");
        for (int b : Edges.outside(0, 3)) {
            e.refused("of(" + b + ", 1)", Due.BEYOND, y -> y.of(b, 1));
        }
        for (int b : Edges.outside(0, 7)) {
            e.refused(Scene::full, "of(" + b + ", 1)", Due.BEYOND, y -> y.of(b, 1));
        }
        for (int what : Edges.outside(0, 5)) {
            e.refused("of(0, " + what + ")", Due.BEYOND, y -> y.of(0, what));
        }
    }

    private void can() {
        e.says(8, "100 and what it MEETS (what 0), LEAVES (1) at a HOUSE, as that is");
        BeardHire x = Scene.full();
        x.turn(7, 4);
        x.set(7, 1, 50);
        x.mood(5, 50);
        x.recall(5, 7);
        e.is("the most that it MEETS", x.can(7, 5, 0), 115);
        x.turn(7, 5);
        x.mood(5, -50);
        e.is("the least that it MEETS", x.can(7, 5, 0), 88);
        e.is("the most that it LEAVES", x.can(7, 5, 1), 107);
        x.turn(7, 1);
        x.set(7, 1, 51);
        e.is("the least that it LEAVES", x.can(7, 5, 1), 95);
        e.is("at another HOUSE", x.can(7, 0, 0), 96);
        e.says(8, "BEYOND");
        for (int b : Edges.outside(0, 3)) {
            e.refused("can(" + b + ", 0, 0)", Due.BEYOND, y -> y.can(b, 0, 0));
        }
        for (int h : Edges.outside(0, 5)) {
            e.refused("can(0, " + h + ", 0)", Due.BEYOND, y -> y.can(0, h, 0));
            e.refused("can(0, " + h + ", 1)", Due.BEYOND, y -> y.can(0, h, 1));
        }
        for (int what : Edges.outside(0, 1)) {
            e.refused("can(0, 0, " + what + ")", Due.BEYOND, y -> y.can(0, 0, what));
        }
    }

    private void set() {
        e.says(9, "FAME (what 1), HOARD (2) of one becomes v: what it was");
        BeardHire x = Scene.full();
        e.is("set(7, 1, 0)", x.set(7, 1, 0), 10);
        e.is("set(7, 1, 99)", x.set(7, 1, 99), 0);
        e.is("set(7, 1, 99) again", x.set(7, 1, 99), 99);
        e.is("set(7, 2, 999)", x.set(7, 2, 999), 0);
        e.is("set(7, 2, 0)", x.set(7, 2, 0), 999);
        e.is("FAME is as it was", x.of(7, 1), 99);
        e.is("set of one that is ON", x.set(1, 1, 1), 69);
        e.says(9, "BEYOND");
        for (int b : Edges.outside(0, 3)) {
            e.refused("set(" + b + ", 1, 0)", Due.BEYOND, y -> y.set(b, 1, 0));
        }
        for (int what : Edges.outside(1, 2)) {
            e.refused("set(0, " + what + ", 0)", Due.BEYOND, y -> y.set(0, what, 0));
        }
        for (int v : Edges.outside(0, 99)) {
            e.refused("set(0, 1, " + v + ")", Due.BEYOND, y -> y.set(0, 1, v));
        }
        for (int v : Edges.outside(0, 999)) {
            e.refused("set(0, 2, " + v + ")", Due.BEYOND, y -> y.set(0, 2, v));
        }
    }

    private void turn() {
        e.says(10, "One becomes one of another KIND: what it was");
        BeardHire x = Scene.full();
        e.is("turn(7, 0)", x.turn(7, 0), 3);
        e.is("turn(7, 5)", x.turn(7, 5), 0);
        e.is("turn(7, 5) again", x.turn(7, 5), 5);
        e.is("turn of one that is ON", x.turn(1, 5), 1);
        e.is("it is still ON", x.of(1, 3), 0);
        e.is("with its HOARD", x.of(1, 2), 10);
        e.says(10, "BEYOND");
        for (int b : Edges.outside(0, 3)) {
            e.refused("turn(" + b + ", 5)", Due.BEYOND, y -> y.turn(b, 5));
        }
        for (int k : Edges.outside(0, 5)) {
            e.refused("turn(0, " + k + ")", Due.BEYOND, y -> y.turn(0, k));
        }
    }

    private void as() {
        String[] under = {"0", "01", "02", "03", "014", "025"};
        for (int kind = 0; kind < 6; kind++) {
            for (int asked = 0; asked < 6; asked++) {
                int k = asked;
                BeardHire x = Scene.busy();
                x.turn(2, kind);
                x.set(2, 1, 99);
                if (under[kind].indexOf('0' + k) >= 0) {
                    e.says(11, "One as one of a kind: FAME");
                    e.is(kind + " as " + k, x.as(2, k), 99);
                    x.set(2, 1, 0);
                    e.is(kind + " as " + k + " with none", x.as(2, k), 0);
                } else {
                    e.says(11, "KIND: it isn't of that kind, nor of one under it");
                    e.is(kind + " as " + k, x.as(2, k), Due.KIND);
                }
            }
        }
        e.says(11, "KIND: it isn't of that kind, nor of one under it");
        e.refused("as(0, 1)", Due.KIND, y -> y.as(0, 1));
        e.refused("as(1, 4)", Due.KIND, y -> y.as(1, 4));
        e.says(11, "BEYOND: no such one, kind");
        for (int b : Edges.outside(0, 3)) {
            e.refused("as(" + b + ", 0)", Due.BEYOND, y -> y.as(b, 0));
        }
        for (int k : Edges.outside(0, 5)) {
            e.refused("as(0, " + k + ")", Due.BEYOND, y -> y.as(0, k));
        }
    }
}
