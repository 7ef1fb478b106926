/** The sentences of promises 17 to 22. */
final class NightsEdges {
    private final Edges e;

    private NightsEdges(Edges e) {
        this.e = e;
    }

    static void run(Edges e) {
        NightsEdges n = new NightsEdges(e);
        n.nights();
        n.on();
        n.then();
        n.fond();
        n.home();
        n.falls();
    }

    /** A GINGER that costs 14 and gives 9 in every NIGHT, 23 in all, as long as there are 14; HOARD grows by 1. */
    static BeardHire draining(int purse) {
        BeardHire x = Due.told("ginger fame 99;beard hoard 999;wearer " + purse + ";wearer 3;hire 0 0");
        for (int h = 0; h < 6; h++) {
            x.mood(h, -50);
            x.recall(h, 0);
        }
        return x;
    }

    private static BeardHire busyInTheLastNight() {
        BeardHire x = Scene.busy();
        for (int i = 0; i < 999; i++) {
            x.nights(100);
        }
        x.nights(96);
        return x;
    }

    private void nights() {
        e.says(17, "n NIGHTS go (1 to 100): PURSES of all together then");
        e.is("nights(1)", draining(9999).nights(1), 9999 - 23 + 3);
        BeardHire x = draining(9999);
        e.is("nights(100)", x.nights(100), 9999 - 2300 + 3);
        e.is("now(0)", x.now(0), 100);
        e.is("nights(100), not paid for to the end", draining(14).nights(100), 3);
        x = new BeardHire();
        e.is("nights(100) with nobody there", x.nights(100), 0);
        for (int w = 0; w < 6; w++) {
            x.wearer(9999);
        }
        e.is("nights(1) with the most that can be", x.nights(1), 59994);
        e.says(17, "BEYOND");
        for (int n : Edges.outside(1, 100)) {
            e.refused("nights(" + n + ")", Due.BEYOND, y -> y.nights(n));
        }
        e.says(17, "STATE: NIGHT would be above 99999");
        // Beyond the 512th call, as no other run gets there.
        for (int n : new int[] {1, 2, 100}) {
            e.refused(NightsEdges::busyInTheLastNight, "nights(" + n + ")", Due.STATE, y -> y.nights(n));
        }
        e.refused(NightsEdges::busyInTheLastNight, "nights(101)", Due.BEYOND, y -> y.nights(101));
        e.is("AHEAD of it goes on", TermsEdges.atLastNight().fond(0, 200), 0);
    }

    private void on() {
        e.says(18, "PURSE (what 0), which beard is ON (1; -1) of a wearer n NIGHTS (0 to 200) AHEAD");
        BeardHire x = draining(4590);
        e.is("on(0, 0, 0)", x.on(0, 0, 0), 4590);
        e.is("on(0, 1, 0)", x.on(0, 1, 0), 4567);
        e.is("on(0, 199, 0)", x.on(0, 199, 0), 13);
        e.is("on(0, 200, 0), not paid", x.on(0, 200, 0), 13);
        e.is("on(0, 0, 1)", x.on(0, 0, 1), 0);
        e.is("on(0, 199, 1)", x.on(0, 199, 1), 0);
        e.is("on(0, 200, 1)", x.on(0, 200, 1), -1);
        e.is("on(1, 200, 0), none ON", x.on(1, 200, 0), 3);
        e.is("on(1, 0, 1), none ON", x.on(1, 0, 1), -1);
        x = draining(9999);
        e.is("on(0, 200, 0) of 9999", x.on(0, 200, 0), 5399);
        e.is("on(0, 200, 1) of 9999", x.on(0, 200, 1), 0);
        e.says(18, "BEYOND");
        for (int w : Edges.outside(0, 2)) {
            e.refused("on(" + w + ", 1, 0)", Due.BEYOND, y -> y.on(w, 1, 0));
        }
        for (int n : Edges.outside(0, 200)) {
            e.refused("on(0, " + n + ", 0)", Due.BEYOND, y -> y.on(0, n, 0));
            e.refused("on(2, " + n + ", 1), none ON", Due.BEYOND, y -> y.on(2, n, 1));
        }
        for (int what : Edges.outside(0, 1)) {
            e.refused("on(0, 1, " + what + ")", Due.BEYOND, y -> y.on(0, 1, what));
        }
    }

    private void then() {
        e.says(19, "FAME (what 0), HOARD (1) of a beard n NIGHTS (0 to 200) AHEAD");
        BeardHire x = draining(9999);
        e.is("then(0, 0, 1)", x.then(0, 0, 1), 0);
        e.is("then(0, 200, 1)", x.then(0, 200, 1), 200);
        e.is("then(0, 200, 0)", x.then(0, 200, 0), 99);
        e.is("then(1, 0, 1), before the MONDAY", x.then(1, 0, 1), 999);
        e.is("then(1, 1, 1), behind it", x.then(1, 1, 1), 0);
        e.is("then(1, 200, 0), in the shop", x.then(1, 200, 0), 10);
        x.set(0, 2, 800);
        e.is("then(0, 198, 1)", x.then(0, 198, 1), 998);
        e.is("then(0, 199, 1)", x.then(0, 199, 1), 999);
        e.is("then(0, 200, 1), held", x.then(0, 200, 1), 999);
        x = Due.told("beard;wearer 9999;hire 0 0");
        e.is("then(0, 0, 0)", x.then(0, 0, 0), 10);
        e.is("then(0, 88, 0)", x.then(0, 88, 0), 98);
        e.is("then(0, 89, 0)", x.then(0, 89, 0), 99);
        e.is("then(0, 90, 0), held", x.then(0, 90, 0), 99);
        e.says(19, "BEYOND");
        for (int b : Edges.outside(0, 3)) {
            e.refused("then(" + b + ", 1, 0)", Due.BEYOND, y -> y.then(b, 1, 0));
        }
        for (int n : Edges.outside(0, 200)) {
            e.refused("then(0, " + n + ", 0)", Due.BEYOND, y -> y.then(0, n, 0));
        }
        for (int what : Edges.outside(0, 1)) {
            e.refused("then(0, 1, " + what + ")", Due.BEYOND, y -> y.then(0, 1, what));
        }
    }

    private void fond() {
        e.says(20, "MOOD of a HOUSE n NIGHTS (0 to 200) AHEAD");
        BeardHire x = Due.told("moustache;wearer 9999;hire 0 0");
        e.is("fond(0, 0)", x.fond(0, 0), 0);
        e.is("fond(0, 1)", x.fond(0, 1), 1);
        e.is("fond(5, 5)", x.fond(5, 5), 0);
        e.is("fond(5, 6)", x.fond(5, 6), 1);
        e.is("fond(0, 6)", x.fond(0, 6), 1);
        e.is("fond(0, 7), the next time round", x.fond(0, 7), 2);
        e.is("fond(0, 200), in the 34th", x.fond(0, 200), 34);
        e.is("fond(5, 200), in the 33rd", x.fond(5, 200), 33);
        x.mood(0, 16);
        e.is("fond(0, 200), 50", x.fond(0, 200), 50);
        x.mood(0, 17);
        e.is("fond(0, 200), held", x.fond(0, 200), 50);
        x.mood(5, -50);
        e.is("fond(5, 5), below 0", x.fond(5, 5), -50);
        e.is("fond(5, 200) of cross ones", draining(9999).fond(5, 200), -50);
        e.says(20, "BEYOND");
        for (int h : Edges.outside(0, 5)) {
            e.refused("fond(" + h + ", 1)", Due.BEYOND, y -> y.fond(h, 1));
        }
        for (int n : Edges.outside(0, 200)) {
            e.refused("fond(0, " + n + ")", Due.BEYOND, y -> y.fond(0, n));
        }
    }

    private static BeardHire busyWithManyNights() {
        BeardHire x = Scene.busy();
        x.give(0, 0, 9999);
        return x;
    }

    private void home() {
        e.says(21, "In how many NIGHTS (0 to 200) a beard is in the shop first");
        e.is("in the shop", draining(9999).home(1), 0);
        e.is("in the shop, the last of eight", Scene.full().home(7), 0);
        e.is("ON, of more beards than wearers", Due.told("beard;beard;wearer 5;hire 0 1").home(1), 2);
        e.is("not paid for at all", draining(13).home(0), 1);
        e.is("paid for once", draining(14).home(0), 2);
        e.is("200, the least", draining(4568).home(0), 200);
        e.is("200, the most", draining(4590).home(0), 200);
        e.is("199", draining(4567).home(0), 199);
        e.says(21, "NONE");
        e.is("in the 201st", draining(4591).home(0), Due.NONE);
        e.is("later", draining(9999).home(0), Due.NONE);
        e.refused(NightsEdges::busyWithManyNights, "home(1)", Due.NONE, y -> y.home(1));
        e.says(21, "BEYOND");
        for (int b : Edges.outside(0, 3)) {
            e.refused("home(" + b + ")", Due.BEYOND, y -> y.home(b));
        }
    }

    private void falls() {
        e.says(22, "In how many NIGHTS (0 to 200) PURSE of a wearer is v (0 to 9999) or less first");
        BeardHire x = draining(4600);
        e.is("falls(0, 9999)", x.falls(0, 9999), 0);
        e.is("falls(0, 4600)", x.falls(0, 4600), 0);
        e.is("falls(0, 4599)", x.falls(0, 4599), 1);
        e.is("falls(0, 4577)", x.falls(0, 4577), 1);
        e.is("falls(0, 4576)", x.falls(0, 4576), 2);
        e.is("falls(0, 22)", x.falls(0, 22), 200);
        e.is("falls(0, 0)", x.falls(0, 0), 200);
        e.is("falls(0, 23)", x.falls(0, 23), 199);
        e.is("falls(1, 3), none ON", x.falls(1, 3), 0);
        e.says(22, "NONE");
        e.is("falls(1, 2), none ON", x.falls(1, 2), Due.NONE);
        e.is("falls(0, 0) in the 201st", draining(4601).falls(0, 0), Due.NONE);
        e.is("falls(0, 1)", draining(4601).falls(0, 1), 200);
        e.refused("falls(2, 0)", Due.NONE, y -> y.falls(2, 0));
        e.says(22, "BEYOND");
        for (int w : Edges.outside(0, 2)) {
            e.refused("falls(" + w + ", 1)", Due.BEYOND, y -> y.falls(w, 1));
        }
        for (int v : Edges.outside(0, 9999)) {
            e.refused("falls(0, " + v + ")", Due.BEYOND, y -> y.falls(0, v));
        }
    }
}
