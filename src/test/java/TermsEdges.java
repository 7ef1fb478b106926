/** The sentences of section "Terms", but for those of THE TEXT. */
final class TermsEdges {
    private final Edges e;

    private TermsEdges(Edges e) {
        this.e = e;
    }

    static void run(Edges e) {
        TermsEdges t = new TermsEdges(e);
        t.findings();
        t.orderOfFindings();
        t.quotientsAndSets();
        t.nightsAndHouses();
        t.beards();
        t.wearers();
        t.costs();
        t.meets();
        t.leaves();
        t.gains();
        t.paying();
        t.paid();
        t.combing();
        t.ahead();
        t.sheets();
    }

    private void findings() {
        e.says(0, "FINDINGS are answers below -1000000000: ..");
        BeardHire x = Scene.full();
        e.is("BEYOND", x.beard(6), -1000000001);
        e.is("FULL", x.beard(0), -1000000002);
        e.is("KIND", x.as(0, 1), -1000000003);
        e.is("NONE", new BeardHire().undo(), -1000000004);
        e.is("STATE", x.back(0), -1000000005);
        e.is("MISSING", x.lays(3), -1000000006);
        e.is("SIZE", x.sheet(0, 8, -1), -1000000007);
        e.is("BEYOND in longs", x.write(4, 0, 0), -1000000001L);
        e.is("MISSING in longs", x.write(3, 0, 0), -1000000006L);
        x.write(2, 0, -1000000001L);
        e.is("a number below, which is no finding", x.write(2, 0, 0), -1000000001L);
        e.is("status(-1)", x.status(-1), 8);
    }

    private void orderOfFindings() {
        e.says(0, "Each act tells its findings in the order in which they are asked; ..");
        e.refused(Scene::full, "beard(6), a 9th", Due.BEYOND, x -> x.beard(6));
        e.refused(Scene::full, "wearer(-1), a 7th", Due.BEYOND, x -> x.wearer(-1));
        e.refused("hire(0, 4), has one ON", Due.BEYOND, x -> x.hire(0, 4));
        e.refused("hire(3, 1), not in the shop", Due.BEYOND, x -> x.hire(3, 1));
        e.refused("best(0, 61), has one ON", Due.BEYOND, x -> x.best(0, 61));
        e.refused(Scene::hiredOut, "best(0, 1), has one ON, and none there", Due.STATE, x -> x.best(0, 1));
        e.refused(Scene::hiredOut, "best(4, 61), none there", Due.BEYOND, x -> x.best(4, 61));
        e.refused("enough(2, 61), none ON", Due.BEYOND, x -> x.enough(2, 61));
        e.refused(BeardHire::new, "richest(201), no beards", Due.BEYOND, x -> x.richest(201));
        e.refused(() -> Scene.taped(0), "feed(0, 5), no room", Due.BEYOND, x -> x.feed(0, 5));
        e.refused("sheet(4, 8, -1)", Due.BEYOND, x -> x.sheet(4, 8, -1));
        e.refused("sheet(0, 9, -1)", Due.BEYOND, x -> x.sheet(0, 9, -1));
        e.refused("write(3, -1, 0)", Due.MISSING, x -> x.write(3, -1, 0));
        e.refused("copy(3, 0, 4, 0, 0)", Due.BEYOND, x -> x.copy(3, 0, 4, 0, 0));
        e.refused("copy(4, 0, 3, 0, 0)", Due.BEYOND, x -> x.copy(4, 0, 3, 0, 0));
        e.refused("copy(3, -1, 0, 0, 0)", Due.MISSING, x -> x.copy(3, -1, 0, 0, 0));
        e.refused("copy(0, 0, 3, 0, -1)", Due.MISSING, x -> x.copy(0, 0, 3, 0, -1));
        e.refused("copy(0, 0, 1, 0, 41)", Due.KIND, x -> x.copy(0, 0, 1, 0, 41));
        e.refused("book(3, 3)", Due.MISSING, x -> x.book(3, 3));
        e.refused("read(3, 3, 4)", Due.MISSING, x -> x.read(3, 3, 4));
    }

    private void quotientsAndSets() {
        e.says(0, "Quotients are cut");
        e.is("FAME 19 by 10", cost(1, 19, 0), 5 + 1);
        e.is("HOARD 99 by 50", cost(5, 10, 99), 12 + 1);
        e.is("MOOD 19 by 10", meets(0, 10, 19, true), 1);
        e.is("MOOD -19 by 10", meets(0, 10, -19, true), -1);

        e.says(0, "Sets are told by bits");
        BeardHire x = new BeardHire();
        e.is("none: now(2)", x.now(2), 0);
        e.is("none: now(3)", x.now(3), 0);
        e.is("none: houseOf(0, 2)", x.houseOf(0, 2), 0);
        for (int i = 0; i < 8; i++) {
            x.beard(0);
            x.wearer(9);
        }
        e.is("all: now(2)", x.now(2), 255);
        for (int w = 0; w < 6; w++) {
            x.give(w, 1, 4);
            x.hire(w, 7 - w);
        }
        e.is("all: now(3)", x.now(3), 63);
        e.is("all: houseOf(4, 2)", x.houseOf(4, 2), 63);
        e.is("0 and 1: now(2)", x.now(2), 3);
        x.back(7);
        e.is("0, 1 and 7: now(2)", x.now(2), 131);
        e.is("1 to 5: now(3)", x.now(3), 62);
    }

    private void nightsAndHouses() {
        e.says(0, "NIGHT: 0 at first (99999 at most); MONDAY: one whose rest by 7 is 0");
        BeardHire x = new BeardHire();
        e.is("now(0) at first", x.now(0), 0);
        e.is("now(1) at first", x.now(1), 1);
        for (int night = 1; night <= 50; night++) {
            x.nights(1);
            e.is("now(1) in NIGHT " + night, x.now(1), " 7 14 21 28 35 42 49 ".contains(" " + night + " ") ? 1 : 0);
        }
        x = atLastNight();
        e.is("now(0) in the last", x.now(0), 99999);
        e.is("nights(1) beyond the last", x.nights(1), Due.STATE);
        e.is("now(0) still", x.now(0), 99999);

        e.says(0, "HOUSES 0 to 5, each REMEMBERS a beard or none (-1; at first), ..");
        x = new BeardHire();
        for (int h = 0; h < 6; h++) {
            e.is("REMEMBERS at first", x.houseOf(h, 1), -1);
            e.is("MOOD at first", x.houseOf(h, 0), 100);
            e.is("MOOD 50", x.mood(h, 50), 0);
            e.is("MOOD -50", x.mood(h, -50), 50);
            e.is("MOOD by then", x.houseOf(h, 0), 50);
        }
        for (int h : Edges.outside(0, 5)) {
            e.refused("houseOf(" + h + ", 0)", Due.BEYOND, y -> y.houseOf(h, 0));
        }
    }

    /** Only calls beyond the 512th get there; the class keeps to the document there, too. */
    static BeardHire atLastNight() {
        BeardHire x = new BeardHire();
        for (int i = 0; i < 999; i++) {
            x.nights(100);
        }
        x.nights(99);
        return x;
    }

    private void beards() {
        e.says(0, "BEARDS 0, 1, .. (at most 8) are of KINDS: ..");
        BeardHire x = new BeardHire();
        e.is("of(0, 0) before there is one", x.of(0, 0), Due.BEYOND);
        for (int b = 0; b < 8; b++) {
            e.is("its number", x.beard(b % 6), b);
            e.is("its FAME at first", x.of(b, 1), 10);
            e.is("its HOARD at first", x.of(b, 2), 0);
            e.is("ON whom at first", x.of(b, 3), -1);
            e.is("the next one", x.of(b + 1, 0), Due.BEYOND);
        }
        e.is("a 9th", x.beard(0), Due.FULL);
        int[] under = {-1, 0, 0, 0, 1, 2};
        for (int k = 1; k < 6; k++) {
            e.is("KIND " + k + " is under the one above", x.as(k, under[k]), 10);
            e.is("the one above is not under KIND " + k, x.as(under[k], k), Due.KIND);
        }
        e.is("FAME 0", x.set(7, 1, 0), 10);
        e.is("FAME 99", x.set(7, 1, 99), 0);
        e.is("FAME 100", x.set(7, 1, 100), Due.BEYOND);
        e.is("FAME by then", x.of(7, 1), 99);
        e.is("HOARD 999", x.set(7, 2, 999), 0);
        e.is("HOARD 1000", x.set(7, 2, 1000), Due.BEYOND);
        e.is("HOARD 0", x.set(7, 2, 0), 999);
        e.is("HOARD -1", x.set(7, 2, -1), Due.BEYOND);
        e.is("HOARD by then", x.of(7, 2), 0);
    }

    private void wearers() {
        e.says(0, "WEARERS 0, 1, .. (at most 6), each with a PURSE ..");
        BeardHire x = new BeardHire();
        for (int w = 0; w < 6; w++) {
            e.is("the next one", x.wearerOf(w, 0), Due.BEYOND);
            e.is("its number", x.wearer(w % 2 == 0 ? 0 : 9999), w);
            e.is("its PURSE", x.wearerOf(w, 0), w % 2 == 0 ? 0 : 9999);
            e.is("its ROUND at first", x.wearerOf(w, 1), w);
        }
        e.is("a 7th", x.wearer(0), Due.FULL);
        String houses = "0123450123450123450";
        for (int t = 0; t < 13; t++) {
            for (int w = 0; w < 6; w++) {
                e.is("NIGHT " + t + ", ROUND " + w, x.wearerOf(w, 3), houses.charAt(t + w) - '0');
            }
            x.nights(1);
        }

        e.says(0, "One has no more than one beard ON");
        x = Due.told("beard;beard;wearer 50;hire 0 0");
        e.is("another one", x.hire(0, 1), Due.STATE);
        e.is("the same one", x.hire(0, 0), Due.STATE);
        e.is("another one in a text", Due.shop(x, "hire 0 1"), -1 - 5);
        e.is("it has the first", x.wearerOf(0, 2), 0);
        e.is("the other is in the shop", x.of(1, 3), -1);
        x.back(0);
        e.is("another one, when the first is back", x.hire(0, 1), 5);
    }

    private static int cost(int kind, int fame, int hoard) {
        BeardHire x = new BeardHire();
        x.beard(kind);
        x.set(0, 1, fame);
        x.set(0, 2, hoard);
        return x.of(0, 4);
    }

    /** Asks for what a KIND costs with FAME and HOARD, three numbers each. */
    private void costs(int kind, int... told) {
        for (int i = 0; i < told.length; i += 3) {
            e.is("FAME " + told[i] + ", HOARD " + told[i + 1], cost(kind, told[i], told[i + 1]), told[i + 2]);
        }
    }

    private void costs() {
        e.says(0, "COSTS (a night): BEARD: 5");
        costs(0, 0, 0, 5, 99, 999, 5);
        e.says(0, "GINGER: as BEARD, and FAME by 10");
        costs(1, 0, 0, 5, 9, 0, 5, 10, 0, 6, 50, 0, 10, 89, 0, 13, 90, 0, 14, 99, 999, 14);
        e.says(0, "WHITE: 12");
        costs(2, 0, 0, 12, 99, 999, 12);
        e.says(0, "MOUSTACHE: 2");
        costs(3, 0, 0, 2, 99, 999, 2);
        e.says(0, "IMPERIAL: as GINGER, twice that");
        costs(4, 0, 0, 10, 9, 0, 10, 10, 0, 12, 19, 0, 12, 99, 999, 28);
        e.says(0, "PATRIARCH: as WHITE, and HOARD by 50");
        costs(5, 0, 0, 12, 99, 49, 12, 10, 50, 13, 10, 949, 30, 10, 950, 31, 99, 999, 31);
    }

    private static int meets(int kind, int fame, int mood, boolean remembered) {
        BeardHire x = new BeardHire();
        x.beard(kind);
        x.beard(kind);
        x.set(0, 1, fame);
        x.mood(5, mood);
        x.recall(5, remembered ? 0 : 1);
        return x.can(0, 5, 0) - 100;
    }

    /** Asks for what a KIND meets with MOOD, REMEMBERED and not, three numbers each. */
    private void meets(int kind, int fame, int... told) {
        for (int i = 0; i < told.length; i += 3) {
            String with = "FAME " + fame + ", MOOD " + told[i];
            e.is(with + ", REMEMBERED", meets(kind, fame, told[i], true), told[i + 1]);
            e.is(with + ", not REMEMBERED", meets(kind, fame, told[i], false), told[i + 2]);
        }
    }

    private void meets() {
        e.says(0, "MEETS (what its wearer gets, below 0: gives, ..");
        meets(0, 99, 50, 5, 0, 49, 4, 0, 10, 1, 0, 9, 0, 0, 0, 0, 0, -9, 0, 0, -10, -1, 0, -49, -4, 0, -50, -5, 0);
        BeardHire x = new BeardHire();
        x.beard(0);
        x.mood(0, 50);
        e.is("where none is REMEMBERED", x.can(0, 0, 0), 100);
        e.says(0, "GINGER: as BEARD, less 4, if FAME is above 50");
        meets(1, 50, 50, 5, 0, 9, 0, 0, -50, -5, 0);
        meets(1, 51, 50, 1, -4, 9, -4, -4, -50, -9, -4);
        e.says(0, "WHITE: as BEARD, if that is above 0, else -6");
        meets(2, 99, 50, 5, -6, 10, 1, -6, 9, -6, -6, 0, -6, -6, -9, -6, -6, -50, -6, -6);
        e.says(0, "MOUSTACHE: as BEARD, and 1");
        meets(3, 99, 50, 6, 1, 9, 1, 1, -10, 0, 1, -50, -4, 1);
        e.says(0, "IMPERIAL: as GINGER, and 10, if m is above 20");
        meets(4, 50, 50, 15, 10, 21, 12, 10, 20, 2, 0, -21, -2, 0, -50, -5, 0);
        meets(4, 51, 50, 11, 6, 21, 8, 6, 20, -2, -4, -50, -9, -4);
        e.says(0, "PATRIARCH: as WHITE, twice that");
        meets(5, 99, 50, 10, -12, 10, 2, -12, 9, -12, -12, 0, -12, -12, -50, -12, -12);
    }

    /** Asks for what a KIND leaves with FAME, two numbers each, whatever the HOUSE is like. */
    private void leaves(int kind, int... told) {
        for (int i = 0; i < told.length; i += 2) {
            BeardHire x = new BeardHire();
            x.beard(kind);
            x.set(0, 1, told[i]);
            x.mood(0, 50);
            x.recall(0, 0);
            x.mood(5, -50);
            e.is("FAME " + told[i] + " at house 0", x.can(0, 0, 1), 100 + told[i + 1]);
            e.is("FAME " + told[i] + " at house 5", x.can(0, 5, 1), 100 + told[i + 1]);
        }
    }

    private void leaves() {
        e.says(0, "LEAVES (how much the MOOD of a HOUSE is more behind it, below 0: less): BEARD: 3");
        leaves(0, 0, 3, 50, 3, 51, 3, 99, 3);
        e.says(0, "GINGER: as BEARD, but -5, if FAME is above 50");
        leaves(1, 0, 3, 50, 3, 51, -5, 99, -5);
        e.says(0, "WHITE: as BEARD, and 4");
        leaves(2, 0, 7, 50, 7, 51, 7, 99, 7);
        e.says(0, "MOUSTACHE: 1");
        leaves(3, 0, 1, 50, 1, 51, 1, 99, 1);
        e.says(0, "IMPERIAL: as GINGER, and 1");
        leaves(4, 0, 4, 50, 4, 51, -4, 99, -4);
        e.says(0, "PATRIARCH: as WHITE");
        leaves(5, 0, 7, 50, 7, 51, 7, 99, 7);
    }

    /** Asks for what a KIND gains on a MONDAY and on another NIGHT, with least and most FAME. */
    private void gains(int kind, int onMonday, int otherwise) {
        BeardHire x = new BeardHire();
        x.beard(kind);
        for (int night = 0; night < 15; night++) {
            x.set(0, 1, night % 2 == 0 ? 0 : 99);
            e.is("in NIGHT " + night, x.of(0, 5), 100 + (night == 0 || night == 7 || night == 14 ? onMonday : otherwise));
            x.nights(1);
        }
    }

    private void gains() {
        e.says(0, "GAINS (FAME in a night ON): BEARD: 1");
        gains(0, 1, 1);
        e.says(0, "GINGER: as BEARD, and 2");
        gains(1, 3, 3);
        e.says(0, "WHITE: as BEARD");
        gains(2, 1, 1);
        e.says(0, "MOUSTACHE: 0");
        gains(3, 0, 0);
        e.says(0, "IMPERIAL: as GINGER, but 0 on a MONDAY");
        gains(4, 0, 3);
        e.says(0, "PATRIARCH: as WHITE, less 2");
        gains(5, -1, -1);
    }

    /** A beard ON, whose wearer has a PURSE, in NIGHT 1 at house 1 (of a MOOD), where it is REMEMBERED. */
    private static BeardHire oneOut(String beard, int purse, int mood) {
        BeardHire x = new BeardHire();
        x.nights(1);
        Due.shop(x, beard + ";wearer " + purse + ";hire 0 0");
        x.mood(1, mood);
        x.recall(1, 0);
        return x;
    }

    private void paying() {
        e.says(0, "A NIGHT goes: WEARERS by numbers: one with a beard ON pays ..");
        int[] costs = {5, 6, 12, 2, 12, 12};
        String[] names = {"beard", "ginger", "white", "moustache", "imperial", "patriarch"};
        for (int k = 0; k < 6; k++) {
            BeardHire x = oneOut(names[k] + " hoard 9", costs[k], 0);
            x.nights(1);
            e.is(names[k] + " when the PURSE just has it", x.of(0, 3), 0);
            e.is(names[k] + ": it went", x.of(0, 2), k == 3 ? 12 : 10);
            x = oneOut(names[k] + " hoard 9", costs[k] - 1, 0);
            x.recall(1, -1);
            e.is(names[k] + " when 1 is wanting", x.nights(1), costs[k] - 1);
            e.is(names[k] + ": in the shop", x.of(0, 3), -1);
            e.is(names[k] + ": none ON", x.wearerOf(0, 2), -1);
            e.is(names[k] + ": FAME", x.of(0, 1), 10);
            e.is(names[k] + ": HOARD", x.of(0, 2), 9);
            e.is(names[k] + ": MOOD", x.houseOf(1, 0), 100);
            e.is(names[k] + ": REMEMBERS", x.houseOf(1, 1), -1);
        }
        BeardHire x = Due.told("moustache;wearer 0;wearer 9;hire 0 0");
        e.is("an empty PURSE", x.nights(1), 9);
        e.is("none is ON", x.now(3), 0);
        e.is("nights(1) when none is ON", x.nights(1), 9);
        x = Due.told("white;beard;wearer 12 round 5;wearer 99 round 5;hire 1 0;hire 0 1");
        x.mood(5, 10);
        x.recall(5, 0);
        x.nights(1);
        e.is("wearer 0 came first", x.wearerOf(0, 0), 7);
        e.is("so beard 0 was REMEMBERED no more", x.wearerOf(1, 0), 99 - 12 - 6);
        e.is("REMEMBERED is the last that came", x.houseOf(5, 1), 0);
    }

    private void purse(String beard, int purse, int mood, int want) {
        BeardHire x = oneOut(beard, purse, mood);
        e.is(beard + " with PURSE " + purse + " at MOOD " + mood, x.nights(1), want);
        e.is("it stays ON", x.of(0, 3), 0);
    }

    private void hoard(String kind, int hoard, int mood, int want) {
        BeardHire x = oneOut(kind + " hoard " + hoard, 99, mood);
        x.nights(1);
        e.is(kind + " with HOARD " + hoard + " at MOOD " + mood, x.of(0, 2), want);
    }

    private void mood(String beard, int mood, int want) {
        BeardHire x = oneOut(beard, 99, mood);
        x.nights(1);
        e.is(beard + " at MOOD " + mood, x.houseOf(1, 0), 100 + want);
        e.is("it is REMEMBERED", x.houseOf(1, 1), 0);
        e.is("the HOUSE before", x.houseOf(0, 0), 100);
        e.is("the HOUSE behind", x.houseOf(2, 0), 100);
    }

    private void fame(String kind, int fame, int want) {
        BeardHire x = oneOut(kind + " fame " + fame, 99, 0);
        x.nights(1);
        e.is(kind + " with FAME " + fame, x.of(0, 1), want);
    }

    private void paid() {
        e.says(0, "One that paid goes to its HOUSE (what the beard MEETS, LEAVES and GAINS is found out there first): ..");
        purse("moustache", 9994, 50, 9998);
        purse("moustache", 9995, 50, 9999);
        purse("moustache", 9996, 50, 9999);
        purse("moustache", 9999, 50, 9999);
        purse("white", 19, 0, 1);
        purse("white", 18, 0, 0);
        purse("white", 17, 0, 0);
        purse("white", 12, 0, 0);
        hoard("beard", 0, 10, 3);
        hoard("beard", 0, 9, 1);
        hoard("beard", 0, -10, 1);
        hoard("beard", 995, 10, 998);
        hoard("beard", 996, 10, 999);
        hoard("beard", 997, 10, 999);
        hoard("beard", 999, 10, 999);
        hoard("beard", 997, 9, 998);
        hoard("beard", 998, 9, 999);
        hoard("beard", 999, 9, 999);
        mood("beard", 46, 49);
        mood("beard", 47, 50);
        mood("beard", 48, 50);
        mood("beard", 50, 50);
        mood("ginger fame 51", -44, -49);
        mood("ginger fame 51", -45, -50);
        mood("ginger fame 51", -46, -50);
        mood("ginger fame 51", -50, -50);
        mood("white", -50, -43);
        fame("ginger", 95, 98);
        fame("ginger", 96, 99);
        fame("ginger", 97, 99);
        fame("ginger", 99, 99);
        fame("patriarch", 2, 1);
        fame("patriarch", 1, 0);
        fame("patriarch", 0, 0);
        fame("moustache", 99, 99);
        BeardHire x = Due.told("ginger fame 50;ginger fame 51;wearer 99;hire 0 1");
        e.is("it is its own FAME, not that of the wearer's number", x.nights(1), 99 - 10 - 4);
        e.is("MOOD by then", x.houseOf(0, 0), 95);
        e.is("FAME by then", x.of(1, 1), 54);
        e.is("FAME of the other", x.of(0, 1), 50);
        x = oneOut("imperial fame 50", 99, 20);
        e.is("found out with FAME 50 and MOOD 20", x.nights(1), 99 - 20 + 2);
        e.is("MOOD by then", x.houseOf(1, 0), 124);
        e.is("FAME by then", x.of(0, 1), 53);
    }

    private void combing() {
        e.says(0, "Then on a MONDAY those in the shop are combed out: HOARD 0");
        BeardHire x = Due.told("white hoard 999;beard hoard 8;beard hoard 7;wearer 9999;wearer 4;hire 0 1;hire 1 2");
        for (int night = 0; night < 15; night++) {
            boolean isMonday = night == 0 || night == 7 || night == 14;
            x.nights(1);
            e.is("in the shop in NIGHT " + night, x.of(0, 2), isMonday ? 0 : 999);
            x.set(0, 2, 999);
        }
        e.is("ON it never is", x.of(1, 2) >= 8 + 15 ? 1 : 0, 1);
        x = Due.told("beard hoard 7;wearer 4;hire 0 0");
        x.nights(1);
        e.is("come back on the MONDAY", x.of(0, 2), 0);
        x = Due.told("beard hoard 7;wearer 5;hire 0 0");
        x.nights(2);
        e.is("come back on the day after", x.of(0, 2), 8);
        x.nights(5);
        e.is("till the next MONDAY", x.of(0, 2), 8);
        x.nights(1);
        e.is("and behind it", x.of(0, 2), 0);

        e.says(0, "NIGHT is 1 more");
        x = new BeardHire();
        x.nights(1);
        e.is("with nobody there", x.now(0), 1);
        x.nights(100);
        e.is("a hundred times", x.now(0), 101);
    }

    private void ahead() {
        e.says(0, "AHEAD: n NIGHTS go on with all as it is; nothing changes");
        e.onlyLooks(Scene::busy, "on", x -> x.on(0, 200, 0));
        e.onlyLooks(Scene::busy, "then", x -> x.then(1, 200, 0));
        e.onlyLooks(Scene::busy, "fond", x -> x.fond(3, 200));
        e.onlyLooks(Scene::busy, "home", x -> x.home(1));
        e.onlyLooks(Scene::busy, "falls", x -> x.falls(0, 15));
        e.onlyLooks(Scene::busy, "best", x -> x.best(2, 60));
        e.onlyLooks(Scene::busy, "round", x -> x.round(0, 60));
        e.onlyLooks(Scene::busy, "kind", x -> x.kind(1, 60));
        e.onlyLooks(Scene::busy, "enough", x -> x.enough(0, 30));
        e.onlyLooks(Scene::busy, "please", x -> x.please(0, 3, 60, 0));
        e.onlyLooks(Scene::busy, "richest", x -> x.richest(200));
        e.onlyLooks(Scene::busy, "read", x -> x.read(1, 0, 1));
        for (int n : new int[] {0, 1, 7, 60, 100}) {
            BeardHire x = Scene.busy();
            BeardHire later = Scene.busy();
            if (n > 0) {
                later.nights(n);
            }
            for (int w = 0; w < 3; w++) {
                e.is("PURSE in " + n, x.on(w, n, 0), later.wearerOf(w, 0));
                e.is("ON in " + n, x.on(w, n, 1), later.wearerOf(w, 2));
            }
            for (int b = 0; b < 4; b++) {
                e.is("FAME in " + n, x.then(b, n, 0), later.of(b, 1));
                e.is("HOARD in " + n, x.then(b, n, 1), later.of(b, 2));
            }
            for (int h = 0; h < 6; h++) {
                e.is("MOOD in " + n, x.fond(h, n), later.houseOf(h, 0) - 100);
            }
        }
    }

    private void sheets() {
        e.says(0, "SHEETS 0 to 3 are rows of at most 40 numbers of 8, 16 or 64 bits, or MISSING (at first)");
        BeardHire x = new BeardHire();
        for (int s = 0; s < 4; s++) {
            e.is("lays(" + s + ") at first", x.lays(s), Due.MISSING);
            e.is("40 numbers", x.sheet(s, 64, 40), 40);
            e.is("41 numbers", x.sheet(s, 64, 41), Due.BEYOND);
            e.is("number 39", x.write(s, 39, Long.MAX_VALUE - s), 0);
            e.is("number 40", x.write(s, 40, 0), Due.BEYOND);
        }
        for (int s = 0; s < 4; s++) {
            e.is("number 39 of its own", x.write(s, 39, 0), Long.MAX_VALUE - s);
        }
        for (int s : Edges.outside(0, 3)) {
            e.refused("lays(" + s + ")", Due.BEYOND, y -> y.lays(s));
        }
    }
}
