/** The sentences of promises 1 to 5. */
final class HousesEdges {
    private final Edges e;

    private HousesEdges(Edges e) {
        this.e = e;
    }

    static void run(Edges e) {
        HousesEdges h = new HousesEdges(e);
        h.newObject();
        h.mood();
        h.recall();
        h.houseOf();
        h.now();
    }

    private void newObject() {
        e.says(1, "No beards, nobody there; THE TAPE is empty, no image is kept");
        BeardHire x = new BeardHire();
        for (int what = 0; what < 4; what++) {
            e.is("count(" + what + ")", x.count(what), 0);
        }
        e.is("now(4)", x.now(4), 0);
        e.is("status(-1)", x.status(-1), 0);
        e.is("of(0, 0)", x.of(0, 0), Due.BEYOND);
        e.is("wearerOf(0, 0)", x.wearerOf(0, 0), Due.BEYOND);
        e.is("recall(0, 0)", x.recall(0, 0), Due.BEYOND);
        e.is("hire(0, 0)", x.hire(0, 0), Due.BEYOND);
        e.is("on(0, 0, 0)", x.on(0, 0, 0), Due.BEYOND);
        e.is("home(0)", x.home(0), Due.BEYOND);
        e.is("kind(0, 1)", x.kind(0, 1), Due.BEYOND);
        e.is("fond(0, 200)", x.fond(0, 200), 0);
        e.is("nights(100)", x.nights(100), 0);
        e.is("wipe()", x.wipe(), 0);
        e.is("tear()", x.tear(), 0);
        e.is("undo()", x.undo(), Due.NONE);
        BeardHire other = Scene.full();
        e.is("another's beards", other.count(0), 8);
        e.is("are none of its own", x.count(0), 0);
    }

    private void mood() {
        e.says(2, "MOOD of a HOUSE becomes v: what it was");
        BeardHire x = new BeardHire();
        for (int h : new int[] {0, 5}) {
            e.is("mood(" + h + ", -50)", x.mood(h, -50), 0);
            e.is("mood(" + h + ", 50)", x.mood(h, 50), -50);
            e.is("mood(" + h + ", 50) again", x.mood(h, 50), 50);
            e.is("mood(" + h + ", -1)", x.mood(h, -1), 50);
            e.is("houseOf(" + h + ", 0)", x.houseOf(h, 0), 99);
        }
        e.says(2, "BEYOND");
        for (int h : Edges.outside(0, 5)) {
            e.refused("mood(" + h + ", 1)", Due.BEYOND, y -> y.mood(h, 1));
        }
        for (int v : Edges.outside(-50, 50)) {
            e.refused("mood(0, " + v + ")", Due.BEYOND, y -> y.mood(0, v));
        }
    }

    private void recall() {
        e.says(3, "A HOUSE REMEMBERS a beard, or none (-1), from now on: what it did");
        BeardHire x = Scene.full();
        e.is("recall(5, 7)", x.recall(5, 7), 2);
        e.is("recall(5, 0)", x.recall(5, 0), 7);
        e.is("recall(5, -1)", x.recall(5, -1), 0);
        e.is("recall(5, -1) again", x.recall(5, -1), -1);
        e.is("houseOf(5, 1)", x.houseOf(5, 1), -1);
        e.is("recall(0, -1) in an empty shop", new BeardHire().recall(0, -1), -1);
        e.says(3, "BEYOND");
        for (int h : Edges.outside(0, 5)) {
            e.refused("recall(" + h + ", -1)", Due.BEYOND, y -> y.recall(h, -1));
        }
        for (int b : Edges.outside(-1, 3)) {
            e.refused("recall(0, " + b + ")", Due.BEYOND, y -> y.recall(0, b));
            e.is("in an empty shop", new BeardHire().recall(0, b), Due.BEYOND);
        }
        for (int b : Edges.outside(-1, 7)) {
            e.refused(Scene::full, "recall(0, " + b + ")", Due.BEYOND, y -> y.recall(0, b));
        }
    }

    private void houseOf() {
        e.says(4, "Of a HOUSE: what 0 100 and MOOD, 1 which beard it REMEMBERS (-1), 2 who goes there this NIGHT, ..");
        BeardHire x = new BeardHire();
        x.mood(0, -50);
        e.is("MOOD -50", x.houseOf(0, 0), 50);
        x.mood(0, 50);
        e.is("MOOD 50", x.houseOf(0, 0), 150);
        e.is("none REMEMBERED", x.houseOf(0, 1), -1);
        e.is("nobody there", x.houseOf(0, 2), 0);
        x = Scene.full();
        x.recall(0, 7);
        e.is("beard 7 REMEMBERED", x.houseOf(0, 1), 7);
        for (int w = 0; w < 6; w++) {
            x.give(w, 1, 2);
        }
        e.is("all go there, ON anything or not", x.houseOf(5, 2), 63);
        e.is("nobody goes to the next", x.houseOf(0, 2), 0);
        x.nights(1);
        e.is("all go on to house 0 behind house 5", x.houseOf(0, 2), 63);
        e.says(4, "BEYOND");
        for (int h : Edges.outside(0, 5)) {
            e.refused("houseOf(" + h + ", 1)", Due.BEYOND, y -> y.houseOf(h, 1));
        }
        for (int what : Edges.outside(0, 2)) {
            e.refused("houseOf(0, " + what + ")", Due.BEYOND, y -> y.houseOf(0, what));
        }
    }

    private void now() {
        e.says(5, "What 0 NIGHT, 1 1 on a MONDAY, else 0, 2 beards in the shop, as a set, 3 wearers ..");
        BeardHire x = Scene.hiredOut();
        e.is("NIGHT", x.now(0), 3);
        e.is("no MONDAY", x.now(1), 0);
        x.nights(4);
        e.is("a MONDAY", x.now(1), 1);
        x = Scene.hiredOut();
        e.is("no beards in the shop", x.now(2), 0);
        e.is("wearers with one ON", x.now(3), 15);
        x = Scene.full();
        e.is("beards in the shop", x.now(2), 255 - 2 - 8);
        e.is("wearers with one ON", x.now(3), 3);
        for (int w = 0; w < 6; w++) {
            x.give(w, 0, 9999);
        }
        e.is("PURSES, the most that can be", x.now(4), 59994);
        for (int w = 0; w < 6; w++) {
            x.give(w, 0, 0);
        }
        e.is("PURSES, the least that can be", x.now(4), 0);
        e.says(5, "BEYOND");
        for (int what : Edges.outside(0, 4)) {
            e.refused("now(" + what + ")", Due.BEYOND, y -> y.now(what));
        }
    }
}
