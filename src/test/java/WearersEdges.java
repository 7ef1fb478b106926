/** The sentences of promises 12 to 16. */
final class WearersEdges {
    private final Edges e;

    private WearersEdges(Edges e) {
        this.e = e;
    }

    static void run(Edges e) {
        WearersEdges w = new WearersEdges(e);
        w.wearer();
        w.wearerOf();
        w.give();
        w.hire();
        w.back();
    }

    private void wearer() {
        e.says(12, "One more with a PURSE: the number");
        BeardHire x = new BeardHire();
        e.is("wearer(0)", x.wearer(0), 0);
        e.is("its PURSE", x.wearerOf(0, 0), 0);
        for (int i = 1; i < 5; i++) {
            x.wearer(1);
        }
        e.is("wearer(9999), the last that may be", x.wearer(9999), 5);
        e.is("its PURSE", x.wearerOf(5, 0), 9999);
        e.is("its ROUND", x.wearerOf(5, 1), 5);
        e.is("none is ON", x.wearerOf(5, 2), -1);
        freshBehindUndo();
        e.says(12, "BEYOND");
        for (int purse : Edges.outside(0, 9999)) {
            e.refused("wearer(" + purse + ")", Due.BEYOND, y -> y.wearer(purse));
        }
        e.says(12, "FULL");
        e.refused(Scene::full, "wearer(0), a 7th", Due.FULL, y -> y.wearer(0));
        e.refused(Scene::full, "wearer(9999), a 7th", Due.FULL, y -> y.wearer(9999));
        x = Scene.full();
        x.undo();
        e.is("no more FULL behind undo()", x.wearer(1), 3);
    }

    /** What an undone wearer was must not be left to the next one of that number. */
    private void freshBehindUndo() {
        BeardHire x = new BeardHire();
        x.beard(0);
        x.image();
        x.wearer(700);
        x.give(0, 1, 5);
        x.hire(0, 0);
        x.undo();
        e.is("the number behind undo()", x.wearer(0), 0);
        e.is("its PURSE", x.wearerOf(0, 0), 0);
        e.is("its ROUND", x.wearerOf(0, 1), 0);
        e.is("none is ON", x.wearerOf(0, 2), -1);
    }

    private void wearerOf() {
        e.says(13, "Of a wearer: what 0 PURSE, 1 ROUND, 2 which beard is ON (-1: none), 3 the HOUSE of this NIGHT");
        BeardHire x = Scene.full();
        x.give(5, 0, 9999);
        e.is("PURSE", x.wearerOf(5, 0), 9999);
        e.is("ROUND", x.wearerOf(5, 1), 5);
        e.is("none ON", x.wearerOf(5, 2), -1);
        x.hire(5, 7);
        e.is("beard 7 ON", x.wearerOf(5, 2), 7);
        e.is("the HOUSE in NIGHT 3", x.wearerOf(5, 3), 2);
        e.is("the HOUSE of ROUND 0", x.wearerOf(0, 3), 3);
        x.give(5, 1, 2);
        e.is("the last HOUSE", x.wearerOf(5, 3), 5);
        x.give(5, 1, 3);
        e.is("the first HOUSE again", x.wearerOf(5, 3), 0);
        e.says(13, "BEYOND");
        for (int w : Edges.outside(0, 2)) {
            e.refused("wearerOf(" + w + ", 0)", Due.BEYOND, y -> y.wearerOf(w, 0));
        }
        for (int w : Edges.outside(0, 5)) {
            e.refused(Scene::full, "wearerOf(" + w + ", 0)", Due.BEYOND, y -> y.wearerOf(w, 0));
        }
        for (int what : Edges.outside(0, 3)) {
            e.refused("wearerOf(0, " + what + ")", Due.BEYOND, y -> y.wearerOf(0, what));
        }
    }

    private void give() {
        e.says(14, "PURSE (what 0), ROUND (1) of a wearer becomes v: what it was");
        BeardHire x = Scene.full();
        e.is("give(5, 0, 0)", x.give(5, 0, 0), 50);
        e.is("give(5, 0, 9999)", x.give(5, 0, 9999), 0);
        e.is("give(5, 0, 9999) again", x.give(5, 0, 9999), 9999);
        e.is("give(5, 1, 0)", x.give(5, 1, 0), 5);
        e.is("give(5, 1, 5)", x.give(5, 1, 5), 0);
        e.is("give(5, 1, 5) again", x.give(5, 1, 5), 5);
        e.is("PURSE is as it was", x.wearerOf(5, 0), 9999);
        e.says(14, "BEYOND");
        for (int w : Edges.outside(0, 2)) {
            e.refused("give(" + w + ", 0, 1)", Due.BEYOND, y -> y.give(w, 0, 1));
            e.refused("give(" + w + ", 1, 1)", Due.BEYOND, y -> y.give(w, 1, 1));
        }
        for (int what : Edges.outside(0, 1)) {
            e.refused("give(0, " + what + ", 1)", Due.BEYOND, y -> y.give(0, what, 1));
        }
        for (int v : Edges.outside(0, 9999)) {
            e.refused("give(0, 0, " + v + ")", Due.BEYOND, y -> y.give(0, 0, v));
        }
        for (int v : Edges.outside(0, 5)) {
            e.refused("give(0, 1, " + v + ")", Due.BEYOND, y -> y.give(0, 1, v));
        }
    }

    private void hire() {
        e.says(15, "A wearer puts a beard ON: what it COSTS");
        BeardHire x = Scene.full();
        x.give(5, 0, 0);
        x.turn(7, 5);
        x.set(7, 2, 999);
        e.is("hire(5, 7) with an empty PURSE", x.hire(5, 7), 31);
        e.is("nothing is paid yet", x.wearerOf(5, 0), 0);
        e.is("it is ON", x.wearerOf(5, 2), 7);
        e.is("ON whom", x.of(7, 3), 5);
        e.is("NIGHT is the same", x.now(0), 3);
        e.says(15, "BEYOND");
        for (int w : Edges.outside(0, 2)) {
            e.refused("hire(" + w + ", 0)", Due.BEYOND, y -> y.hire(w, 0));
        }
        for (int b : Edges.outside(0, 3)) {
            e.refused("hire(2, " + b + ")", Due.BEYOND, y -> y.hire(2, b));
        }
        e.says(15, "STATE: it has one ON already, or the beard isn't in the shop");
        e.refused("hire(0, 0), has one ON", Due.STATE, y -> y.hire(0, 0));
        e.refused("hire(2, 1), not in the shop", Due.STATE, y -> y.hire(2, 1));
        e.refused("hire(0, 1), its own", Due.STATE, y -> y.hire(0, 1));
        e.refused("hire(0, 3), both", Due.STATE, y -> y.hire(0, 3));
        x = Scene.busy();
        x.give(0, 0, 0);
        x.nights(1);
        e.is("when it could not pay for that", x.hire(0, 1), 11);
    }

    private void back() {
        e.says(16, "A beard comes back to the shop: whose it was");
        BeardHire x = Scene.full();
        x.hire(5, 7);
        e.is("back(7)", x.back(7), 5);
        e.is("back(1)", x.back(1), 0);
        e.is("none is ON", x.wearerOf(0, 2), -1);
        e.is("in the shop", x.of(1, 3), -1);
        e.is("its HOARD is not combed out", x.of(1, 2), 10);
        e.is("the other one is still ON", x.now(3), 2);
        e.says(16, "BEYOND");
        for (int b : Edges.outside(0, 3)) {
            e.refused("back(" + b + ")", Due.BEYOND, y -> y.back(b));
        }
        e.says(16, "STATE: it is there");
        e.refused("back(0)", Due.STATE, y -> y.back(0));
        x = Scene.busy();
        x.back(3);
        e.is("back(3) again", x.back(3), Due.STATE);
    }
}
