/**
 * A shop that hires out false beards by the night: beards of kinds, wearers with purses, houses
 * that remember; with what lies ahead of them, what had best be done, and a shop told in a text.
 * ../shared/DOC.md says what each call promises.
 */
public final class BeardHire {
    private static final int BEYOND = 0;
    private static final int FULL = 1;
    private static final int KIND = 2;
    private static final int NONE = 3;
    private static final int STATE = 4;
    private static final int MISSING = 5;
    private static final int SIZE = 6;
    private static final int FINDINGS = 7;
    private static final int FIRST_FINDING = -1000000001;

    private static final int HOUSES = 6;
    private static final int KINDS = 6;
    private static final int MOST_BEARDS = 8;
    private static final int MOST_WEARERS = 6;
    private static final int MOST_MOOD = 50;
    private static final int MOST_FAME = 99;
    private static final int MOST_HOARD = 999;
    private static final int MOST_PURSE = 9999;
    private static final int LAST_NIGHT = 99999;
    private static final int FIRST_FAME = 10;
    private static final int WEEK = 7;
    private static final int NOBODY = -1;

    private static final int FAR_AHEAD = 200;
    private static final int NEAR_AHEAD = 60;
    private static final int MOST_NIGHTS = 100;
    private static final int PURSE_STEP = 10;
    private static final int MOST_ENOUGH = 2000;

    private static final int SHEETS = 4;
    private static final int MOST_NUMBERS = 40;
    private static final int MOST_BYTES = 120;

    /** The kind above each kind; none (-1) is above BEARD. */
    private static final int[] ABOVE = {-1, 0, 0, 0, 1, 2};

    private final Trade live;
    /** Where all that only might be is tried out, so that nothing real changes. */
    private final Trade trial;
    private final Trade kept;
    private boolean isKept;
    private final Text text;
    private final Sheet[] sheets;
    private final int[] findings;

    public BeardHire() {
        Kind[] manners = {
            new Kind(), new Ginger(), new White(), new Moustache(), new Imperial(), new Patriarch()
        };
        live = new Trade(manners);
        trial = new Trade(manners);
        kept = new Trade(manners);
        isKept = false;
        text = new Text(manners, trial);
        sheets = new Sheet[SHEETS];
        for (int s = 0; s < SHEETS; s++) {
            sheets[s] = new Sheet();
        }
        findings = new int[FINDINGS];
    }

    // ---- houses

    public int mood(int house, int v) {
        if (!isHouse(house) || !isWithin(v, -MOST_MOOD, MOST_MOOD)) {
            return finding(BEYOND);
        }
        int was = live.moods[house];
        live.moods[house] = v;
        return was;
    }

    public int recall(int house, int beard) {
        if (!isHouse(house) || (beard != NOBODY && !isBeard(beard))) {
            return finding(BEYOND);
        }
        int was = live.remembered[house];
        live.remembered[house] = beard;
        return was;
    }

    public int houseOf(int house, int what) {
        if (!isHouse(house)) {
            return finding(BEYOND);
        }
        switch (what) {
            case 0:
                return 100 + live.moods[house];
            case 1:
                return live.remembered[house];
            case 2:
                return live.guestsAt(house);
            default:
                return finding(BEYOND);
        }
    }

    public int now(int what) {
        switch (what) {
            case 0:
                return live.night;
            case 1:
                return live.isMonday() ? 1 : 0;
            case 2:
                return live.beardsInShop();
            case 3:
                return live.wearersInBeards();
            case 4:
                return live.allPurses();
            default:
                return finding(BEYOND);
        }
    }

    // ---- beards

    public int beard(int kind) {
        if (!isKind(kind)) {
            return finding(BEYOND);
        }
        int number = live.addBeard(kind);
        return number < 0 ? finding(FULL) : number;
    }

    public int of(int beard, int what) {
        if (!isBeard(beard)) {
            return finding(BEYOND);
        }
        switch (what) {
            case 0:
                return live.kinds[beard];
            case 1:
                return live.fames[beard];
            case 2:
                return live.hoards[beard];
            case 3:
                return live.wornBy[beard];
            case 4:
                return live.costOf(beard);
            case 5:
                return 100 + live.gainOf(beard);
            default:
                return finding(BEYOND);
        }
    }

    public int can(int beard, int house, int what) {
        if (!isBeard(beard) || !isHouse(house)) {
            return finding(BEYOND);
        }
        switch (what) {
            case 0:
                return 100 + live.meetingAt(beard, house);
            case 1:
                return 100 + live.leavingOf(beard);
            default:
                return finding(BEYOND);
        }
    }

    public int set(int beard, int what, int v) {
        if (!isBeard(beard)) {
            return finding(BEYOND);
        }
        if (what == 1 && isWithin(v, 0, MOST_FAME)) {
            int fame = live.fames[beard];
            live.fames[beard] = v;
            return fame;
        }
        if (what == 2 && isWithin(v, 0, MOST_HOARD)) {
            int hoard = live.hoards[beard];
            live.hoards[beard] = v;
            return hoard;
        }
        return finding(BEYOND);
    }

    public int turn(int beard, int kind) {
        if (!isBeard(beard) || !isKind(kind)) {
            return finding(BEYOND);
        }
        int was = live.kinds[beard];
        live.kinds[beard] = kind;
        return was;
    }

    public int as(int beard, int kind) {
        if (!isBeard(beard) || !isKind(kind)) {
            return finding(BEYOND);
        }
        return isUnder(live.kinds[beard], kind) ? live.fames[beard] : finding(KIND);
    }

    // ---- wearers

    public int wearer(int purse) {
        if (!isWithin(purse, 0, MOST_PURSE)) {
            return finding(BEYOND);
        }
        int number = live.addWearer(purse);
        return number < 0 ? finding(FULL) : number;
    }

    public int wearerOf(int wearer, int what) {
        if (!isWearer(wearer)) {
            return finding(BEYOND);
        }
        switch (what) {
            case 0:
                return live.purses[wearer];
            case 1:
                return live.rounds[wearer];
            case 2:
                return live.wears[wearer];
            case 3:
                return live.houseTonight(wearer);
            default:
                return finding(BEYOND);
        }
    }

    public int give(int wearer, int what, int v) {
        if (!isWearer(wearer)) {
            return finding(BEYOND);
        }
        if (what == 0 && isWithin(v, 0, MOST_PURSE)) {
            int purse = live.purses[wearer];
            live.purses[wearer] = v;
            return purse;
        }
        if (what == 1 && isHouse(v)) {
            int round = live.rounds[wearer];
            live.rounds[wearer] = v;
            return round;
        }
        return finding(BEYOND);
    }

    public int hire(int wearer, int beard) {
        if (!isWearer(wearer) || !isBeard(beard)) {
            return finding(BEYOND);
        }
        if (live.wears[wearer] != NOBODY || live.wornBy[beard] != NOBODY) {
            return finding(STATE);
        }
        live.putOn(wearer, beard);
        return live.costOf(beard);
    }

    public int back(int beard) {
        if (!isBeard(beard)) {
            return finding(BEYOND);
        }
        int wearer = live.wornBy[beard];
        if (wearer == NOBODY) {
            return finding(STATE);
        }
        live.takeOff(wearer, beard);
        return wearer;
    }

    // ---- nights

    public int nights(int n) {
        if (!isWithin(n, 1, MOST_NIGHTS)) {
            return finding(BEYOND);
        }
        if (live.night + n > LAST_NIGHT) {
            return finding(STATE);
        }
        live.passNights(n);
        return live.allPurses();
    }

    public int on(int wearer, int n, int what) {
        if (!isWearer(wearer) || !isWithin(n, 0, FAR_AHEAD) || !isWithin(what, 0, 1)) {
            return finding(BEYOND);
        }
        trial.become(live);
        trial.passNightsOfWearer(wearer, n);
        return what == 0 ? trial.purses[wearer] : trial.wears[wearer];
    }

    public int then(int beard, int n, int what) {
        if (!isBeard(beard) || !isWithin(n, 0, FAR_AHEAD) || !isWithin(what, 0, 1)) {
            return finding(BEYOND);
        }
        trial.become(live);
        trial.passNights(n);
        return what == 0 ? trial.fames[beard] : trial.hoards[beard];
    }

    public int fond(int house, int n) {
        if (!isHouse(house) || !isWithin(n, 0, FAR_AHEAD)) {
            return finding(BEYOND);
        }
        trial.become(live);
        trial.passNights(n);
        return trial.moods[house];
    }

    public int home(int beard) {
        if (!isBeard(beard)) {
            return finding(BEYOND);
        }
        trial.become(live);
        for (int n = 0; n <= FAR_AHEAD; n++) {
            if (trial.wornBy[beard] == NOBODY) {
                return n;
            }
            trial.passNight();
        }
        return finding(NONE);
    }

    public int falls(int wearer, int v) {
        if (!isWearer(wearer) || !isWithin(v, 0, MOST_PURSE)) {
            return finding(BEYOND);
        }
        trial.become(live);
        for (int n = 0; n <= FAR_AHEAD; n++) {
            if (trial.purses[wearer] <= v) {
                return n;
            }
            trial.passNight();
        }
        return finding(NONE);
    }

    // ---- what is best

    public int best(int wearer, int n) {
        if (!isWearer(wearer) || !isWithin(n, 1, NEAR_AHEAD)) {
            return finding(BEYOND);
        }
        if (live.wears[wearer] != NOBODY) {
            return finding(STATE);
        }
        int best = NOBODY;
        int most = -1;
        for (int b = 0; b < live.beards; b++) {
            if (live.wornBy[b] == NOBODY) {
                trial.become(live);
                trial.putOn(wearer, b);
                trial.passNightsOfWearer(wearer, n);
                if (trial.purses[wearer] > most) {
                    best = b;
                    most = trial.purses[wearer];
                }
            }
        }
        return best == NOBODY ? finding(NONE) : best;
    }

    public int round(int wearer, int n) {
        if (!isWearer(wearer) || !isWithin(n, 1, NEAR_AHEAD)) {
            return finding(BEYOND);
        }
        int best = 0;
        int most = -1;
        for (int r = 0; r < HOUSES; r++) {
            trial.become(live);
            trial.rounds[wearer] = r;
            trial.passNightsOfWearer(wearer, n);
            if (trial.purses[wearer] > most) {
                best = r;
                most = trial.purses[wearer];
            }
        }
        return best;
    }

    public int kind(int beard, int n) {
        if (!isBeard(beard) || !isWithin(n, 1, NEAR_AHEAD)) {
            return finding(BEYOND);
        }
        int best = 0;
        int most = -1;
        for (int k = 0; k < KINDS; k++) {
            trial.become(live);
            trial.kinds[beard] = k;
            trial.passNights(n);
            int all = trial.allPurses();
            if (all > most) {
                best = k;
                most = all;
            }
        }
        return best;
    }

    public int enough(int wearer, int n) {
        if (!isWearer(wearer) || !isWithin(n, 1, NEAR_AHEAD)) {
            return finding(BEYOND);
        }
        if (live.wears[wearer] == NOBODY) {
            return finding(STATE);
        }
        for (int purse = 0; purse <= MOST_ENOUGH; purse += PURSE_STEP) {
            trial.become(live);
            trial.purses[wearer] = purse;
            trial.passNightsOfWearer(wearer, n);
            if (trial.wears[wearer] != NOBODY) {
                return purse;
            }
        }
        return finding(NONE);
    }

    public int please(int wearer, int house, int n, int v) {
        if (!isWearer(wearer) || !isHouse(house) || !isWithin(n, 1, NEAR_AHEAD)
                || !isWithin(v, 0, MOST_PURSE)) {
            return finding(BEYOND);
        }
        for (int m = -MOST_MOOD; m <= MOST_MOOD; m++) {
            trial.become(live);
            trial.moods[house] = m;
            trial.passNightsOfWearer(wearer, n);
            if (trial.purses[wearer] >= v) {
                return m;
            }
        }
        return finding(NONE);
    }

    public int richest(int n) {
        if (!isWithin(n, 0, FAR_AHEAD)) {
            return finding(BEYOND);
        }
        trial.become(live);
        trial.passNights(n);
        int best = NOBODY;
        int most = -1;
        for (int b = 0; b < trial.beards; b++) {
            if (trial.hoards[b] > most) {
                best = b;
                most = trial.hoards[b];
            }
        }
        return best == NOBODY ? finding(NONE) : best;
    }

    // ---- the text

    public int feed(int bytes, int n) {
        if (!isWithin(n, 1, 4)) {
            return finding(BEYOND);
        }
        if (text.length + n > MOST_BYTES) {
            return finding(FULL);
        }
        for (int b = n - 1; b >= 0; b--) {
            text.append((bytes >>> (8 * b)) & 255);
        }
        return text.length;
    }

    public int wipe() {
        int had = text.length;
        text.length = 0;
        return had;
    }

    public int shop() {
        trial.become(live);
        int items = text.tellAll();
        text.length = 0;
        if (items > 0) {
            live.become(trial);
        }
        return items;
    }

    // ---- sheets

    public int sheet(int s, int bits, int n) {
        if (!isSheet(s) || (bits != 0 && bits != 8 && bits != 16 && bits != 64)) {
            return finding(BEYOND);
        }
        if (n < 0) {
            return finding(SIZE);
        }
        if (n > MOST_NUMBERS) {
            return finding(BEYOND);
        }
        sheets[s].layOut(bits, bits == 0 ? 0 : n);
        return sheets[s].length;
    }

    public long write(int s, int i, long v) {
        if (!isSheet(s)) {
            return finding(BEYOND);
        }
        Sheet sheet = sheets[s];
        if (sheet.isMissing()) {
            return finding(MISSING);
        }
        if (i < 0 || i >= sheet.length) {
            return finding(BEYOND);
        }
        long was = sheet.numbers[i];
        sheet.put(i, v);
        return was;
    }

    public int copy(int s, int from, int t, int to, int n) {
        if (!isSheet(s) || !isSheet(t)) {
            return finding(BEYOND);
        }
        Sheet source = sheets[s];
        Sheet target = sheets[t];
        if (source.isMissing() || target.isMissing()) {
            return finding(MISSING);
        }
        if (source.bits != target.bits) {
            return finding(KIND);
        }
        if (!source.hasSpan(from, n) || !target.hasSpan(to, n)) {
            return finding(BEYOND);
        }
        System.arraycopy(source.numbers, from, target.numbers, to, n);
        return n;
    }

    public int lays(int s) {
        if (!isSheet(s)) {
            return finding(BEYOND);
        }
        Sheet sheet = sheets[s];
        if (sheet.isMissing()) {
            return finding(MISSING);
        }
        int came = 0;
        for (int i = 0; i < sheet.length && i < live.wearers; i++) {
            long purse = sheet.numbers[i];
            if (purse >= 0 && purse <= MOST_PURSE) {
                live.purses[i] = (int) purse;
                came++;
            }
        }
        return came;
    }

    public int book(int s, int wearer) {
        if (!isSheet(s)) {
            return finding(BEYOND);
        }
        Sheet sheet = sheets[s];
        if (sheet.isMissing()) {
            return finding(MISSING);
        }
        if (!isWearer(wearer)) {
            return finding(BEYOND);
        }
        trial.become(live);
        for (int i = 0; i < sheet.length; i++) {
            sheet.put(i, trial.purses[wearer]);
            trial.passNight();
        }
        return sheet.length;
    }

    public int read(int s, int wearer, int beard) {
        if (!isSheet(s)) {
            return finding(BEYOND);
        }
        if (sheets[s].isMissing()) {
            return finding(MISSING);
        }
        if (!isWearer(wearer) || !isBeard(beard)) {
            return finding(BEYOND);
        }
        int pairs = 0;
        for (int k = 0; k < KINDS; k++) {
            for (int r = 0; r < HOUSES; r++) {
                trial.become(live);
                trial.kinds[beard] = k;
                trial.rounds[wearer] = r;
                if (trialFollows(sheets[s], wearer)) {
                    pairs++;
                }
            }
        }
        return pairs;
    }

    // ---- images

    public int image() {
        kept.become(live);
        isKept = true;
        return 1;
    }

    public int undo() {
        if (!isKept) {
            return finding(NONE);
        }
        live.become(kept);
        return live.beards;
    }

    public int tear() {
        int had = isKept ? 1 : 0;
        isKept = false;
        return had;
    }

    public int count(int what) {
        switch (what) {
            case 0:
                return live.beards;
            case 1:
                return live.wearers;
            case 2:
                return text.length;
            case 3:
                return live.allHoards();
            default:
                return finding(BEYOND);
        }
    }

    public int status(int which) {
        if (which == -1) {
            int all = 0;
            for (int f = 0; f < FINDINGS; f++) {
                all += findings[f];
            }
            return all;
        }
        return which >= 0 && which < FINDINGS ? findings[which] : finding(BEYOND);
    }

    // ---- what the calls share

    private int finding(int which) {
        findings[which]++;
        return FIRST_FINDING - which;
    }

    private boolean isBeard(int number) {
        return number >= 0 && number < live.beards;
    }

    private boolean isWearer(int number) {
        return number >= 0 && number < live.wearers;
    }

    private static boolean isHouse(int number) {
        return number >= 0 && number < HOUSES;
    }

    private static boolean isKind(int number) {
        return number >= 0 && number < KINDS;
    }

    private static boolean isSheet(int number) {
        return number >= 0 && number < SHEETS;
    }

    private static boolean isWithin(int v, int least, int most) {
        return v >= least && v <= most;
    }

    private static boolean isUnder(int kind, int above) {
        int k = kind;
        for (int step = 0; step < KINDS && isKind(k); step++) {
            if (k == above) {
                return true;
            }
            k = ABOVE[k];
        }
        return false;
    }

    private boolean trialFollows(Sheet sheet, int wearer) {
        for (int i = 0; i < sheet.length; i++) {
            if (trial.purses[wearer] != sheet.numbers[i]) {
                return false;
            }
            trial.passNight();
        }
        return true;
    }

    /** The kind BEARD; each other kind stands under one and says only what it does otherwise. */
    private static class Kind {
        static final int FAMOUS = 50;

        String title() {
            return "beard";
        }

        int costs(int fame, int hoard) {
            return 5;
        }

        int meets(int mood, boolean isRemembered, int fame) {
            return isRemembered ? mood / 10 : 0;
        }

        int leaves(int fame) {
            return 3;
        }

        int gains(boolean isMonday) {
            return 1;
        }
    }

    private static class Ginger extends Kind {
        String title() {
            return "ginger";
        }

        int costs(int fame, int hoard) {
            return super.costs(fame, hoard) + fame / 10;
        }

        int meets(int mood, boolean isRemembered, int fame) {
            int met = super.meets(mood, isRemembered, fame);
            return fame > FAMOUS ? met - 4 : met;
        }

        int leaves(int fame) {
            return fame > FAMOUS ? -5 : super.leaves(fame);
        }

        int gains(boolean isMonday) {
            return super.gains(isMonday) + 2;
        }
    }

    private static class White extends Kind {
        String title() {
            return "white";
        }

        int costs(int fame, int hoard) {
            return 12;
        }

        int meets(int mood, boolean isRemembered, int fame) {
            int met = super.meets(mood, isRemembered, fame);
            return met > 0 ? met : -6;
        }

        int leaves(int fame) {
            return super.leaves(fame) + 4;
        }
    }

    private static final class Moustache extends Kind {
        String title() {
            return "moustache";
        }

        int costs(int fame, int hoard) {
            return 2;
        }

        int meets(int mood, boolean isRemembered, int fame) {
            return super.meets(mood, isRemembered, fame) + 1;
        }

        int leaves(int fame) {
            return 1;
        }

        int gains(boolean isMonday) {
            return 0;
        }
    }

    private static final class Imperial extends Ginger {
        String title() {
            return "imperial";
        }

        int costs(int fame, int hoard) {
            return 2 * super.costs(fame, hoard);
        }

        int meets(int mood, boolean isRemembered, int fame) {
            int met = super.meets(mood, isRemembered, fame);
            return mood > 20 ? met + 10 : met;
        }

        int leaves(int fame) {
            return super.leaves(fame) + 1;
        }

        int gains(boolean isMonday) {
            return isMonday ? 0 : super.gains(isMonday);
        }
    }

    private static final class Patriarch extends White {
        String title() {
            return "patriarch";
        }

        int costs(int fame, int hoard) {
            return super.costs(fame, hoard) + hoard / 50;
        }

        int meets(int mood, boolean isRemembered, int fame) {
            return 2 * super.meets(mood, isRemembered, fame);
        }

        int gains(boolean isMonday) {
            return super.gains(isMonday) - 2;
        }
    }

    /** All that section 1 of the document tells, THE TAPE left out: what an image keeps. */
    private static final class Trade {
        private final Kind[] manners;
        int night;
        int beards;
        int wearers;
        final int[] kinds = new int[MOST_BEARDS];
        final int[] fames = new int[MOST_BEARDS];
        final int[] hoards = new int[MOST_BEARDS];
        /** By beard: on whom it is. Turned about it is {@link #wears}; both change together. */
        final int[] wornBy = new int[MOST_BEARDS];
        final int[] purses = new int[MOST_WEARERS];
        final int[] rounds = new int[MOST_WEARERS];
        final int[] wears = new int[MOST_WEARERS];
        final int[] moods = new int[HOUSES];
        final int[] remembered = new int[HOUSES];

        Trade(Kind[] manners) {
            this.manners = manners;
            for (int h = 0; h < HOUSES; h++) {
                remembered[h] = NOBODY;
            }
        }

        void become(Trade other) {
            night = other.night;
            beards = other.beards;
            wearers = other.wearers;
            System.arraycopy(other.kinds, 0, kinds, 0, MOST_BEARDS);
            System.arraycopy(other.fames, 0, fames, 0, MOST_BEARDS);
            System.arraycopy(other.hoards, 0, hoards, 0, MOST_BEARDS);
            System.arraycopy(other.wornBy, 0, wornBy, 0, MOST_BEARDS);
            System.arraycopy(other.purses, 0, purses, 0, MOST_WEARERS);
            System.arraycopy(other.rounds, 0, rounds, 0, MOST_WEARERS);
            System.arraycopy(other.wears, 0, wears, 0, MOST_WEARERS);
            System.arraycopy(other.moods, 0, moods, 0, HOUSES);
            System.arraycopy(other.remembered, 0, remembered, 0, HOUSES);
        }

        /** The number of the new beard, or -1 if there is no place for it. */
        int addBeard(int kindNumber) {
            if (beards >= MOST_BEARDS) {
                return -1;
            }
            int b = beards;
            beards++;
            kinds[b] = kindNumber;
            fames[b] = FIRST_FAME;
            hoards[b] = 0;
            wornBy[b] = NOBODY;
            return b;
        }

        /** The number of the new wearer, or -1 if there is no place for one. */
        int addWearer(int purse) {
            if (wearers >= MOST_WEARERS) {
                return -1;
            }
            int w = wearers;
            wearers++;
            purses[w] = purse;
            rounds[w] = w;
            wears[w] = NOBODY;
            return w;
        }

        void putOn(int w, int b) {
            wears[w] = b;
            wornBy[b] = w;
        }

        void takeOff(int w, int b) {
            wears[w] = NOBODY;
            wornBy[b] = NOBODY;
        }

        boolean isMonday() {
            return night % WEEK == 0;
        }

        int houseTonight(int w) {
            return (night + rounds[w]) % HOUSES;
        }

        int costOf(int b) {
            return manners[kinds[b]].costs(fames[b], hoards[b]);
        }

        int meetingAt(int b, int h) {
            return manners[kinds[b]].meets(moods[h], remembered[h] == b, fames[b]);
        }

        int leavingOf(int b) {
            return manners[kinds[b]].leaves(fames[b]);
        }

        int gainOf(int b) {
            return manners[kinds[b]].gains(isMonday());
        }

        void passNights(int n) {
            for (int i = 0; i < n; i++) {
                passNight();
            }
        }

        /** As passNights, for who asks of one wearer alone: with nothing ON it never changes more. */
        void passNightsOfWearer(int w, int n) {
            for (int i = 0; i < n && wears[w] != NOBODY; i++) {
                passNight();
            }
        }

        void passNight() {
            for (int w = 0; w < wearers; w++) {
                if (wears[w] != NOBODY) {
                    spendNight(w, wears[w]);
                }
            }
            if (isMonday()) {
                combOut();
            }
            night++;
        }

        private void spendNight(int w, int b) {
            Kind manner = manners[kinds[b]];
            int cost = manner.costs(fames[b], hoards[b]);
            if (purses[w] < cost) {
                takeOff(w, b);
                return;
            }
            int h = houseTonight(w);
            // All three are found out before anything changes: they depend on what changes here.
            int met = manner.meets(moods[h], remembered[h] == b, fames[b]);
            int left = manner.leaves(fames[b]);
            int gained = manner.gains(isMonday());
            purses[w] = held(purses[w] - cost + met, 0, MOST_PURSE);
            hoards[b] = held(hoards[b] + (met > 0 ? 3 : 1), 0, MOST_HOARD);
            moods[h] = held(moods[h] + left, -MOST_MOOD, MOST_MOOD);
            remembered[h] = b;
            fames[b] = held(fames[b] + gained, 0, MOST_FAME);
        }

        private void combOut() {
            for (int b = 0; b < beards; b++) {
                if (wornBy[b] == NOBODY) {
                    hoards[b] = 0;
                }
            }
        }

        private static int held(int v, int least, int most) {
            return Math.max(least, Math.min(most, v));
        }

        int guestsAt(int h) {
            int set = 0;
            for (int w = 0; w < wearers; w++) {
                if (houseTonight(w) == h) {
                    set |= 1 << w;
                }
            }
            return set;
        }

        int beardsInShop() {
            int set = 0;
            for (int b = 0; b < beards; b++) {
                if (wornBy[b] == NOBODY) {
                    set |= 1 << b;
                }
            }
            return set;
        }

        int wearersInBeards() {
            int set = 0;
            for (int w = 0; w < wearers; w++) {
                if (wears[w] != NOBODY) {
                    set |= 1 << w;
                }
            }
            return set;
        }

        int allPurses() {
            int all = 0;
            for (int w = 0; w < wearers; w++) {
                all += purses[w];
            }
            return all;
        }

        int allHoards() {
            int all = 0;
            for (int b = 0; b < beards; b++) {
                all += hoards[b];
            }
            return all;
        }
    }

    /** THE TAPE, and the reading of it as THE TEXT of a shop. */
    private static final class Text {
        private static final int END = 0;
        private static final int WORD = 1;
        private static final int NUMBER = 2;
        private static final int SIGN = 3;
        private static final int STRANGE = 4;

        private final Kind[] manners;
        private final int[] tape = new int[MOST_BYTES];
        int length;
        /** What the text is told to: all of it may have to be dropped again. */
        private final Trade draft;
        private int token;
        /** Where the token begins; while reading stops at a token that can't stand, the FAULT. */
        private int first;
        /** Where what follows the token begins. */
        private int next;
        private int value;

        Text(Kind[] manners, Trade draft) {
            this.manners = manners;
            this.draft = draft;
        }

        void append(int oneByte) {
            if (length < MOST_BYTES) {
                tape[length] = oneByte;
                length++;
            }
        }

        /** How many items came to the draft, or -1 less the place of a FAULT (it is half told then). */
        int tellAll() {
            next = 0;
            advance();
            for (int items = 1; items <= MOST_BYTES; items++) {
                if (!tellItem()) {
                    break;
                }
                if (token == END) {
                    return items;
                }
                if (token != SIGN) {
                    break;
                }
                advance();
            }
            return -1 - first;
        }

        private boolean tellItem() {
            for (int k = 0; k < KINDS; k++) {
                if (isWord(manners[k].title())) {
                    return tellBeard(k);
                }
            }
            if (isWord("wearer")) {
                return tellWearer();
            }
            if (isWord("house")) {
                return tellHouse();
            }
            return isWord("hire") && tellHire();
        }

        private boolean tellBeard(int kindNumber) {
            int b = draft.addBeard(kindNumber);
            if (b < 0) {
                return false;
            }
            advance();
            if (isWord("fame")) {
                advance();
                if (!isNumber(MOST_FAME)) {
                    return false;
                }
                draft.fames[b] = takeNumber();
            }
            if (isWord("hoard")) {
                advance();
                if (!isNumber(MOST_HOARD)) {
                    return false;
                }
                draft.hoards[b] = takeNumber();
            }
            return true;
        }

        private boolean tellWearer() {
            int w = draft.addWearer(0);
            if (w < 0) {
                return false;
            }
            advance();
            if (!isNumber(MOST_PURSE)) {
                return false;
            }
            draft.purses[w] = takeNumber();
            if (isWord("round")) {
                advance();
                if (!isNumber(HOUSES - 1)) {
                    return false;
                }
                draft.rounds[w] = takeNumber();
            }
            return true;
        }

        private boolean tellHouse() {
            advance();
            if (!isNumber(HOUSES - 1)) {
                return false;
            }
            int h = takeNumber();
            boolean isCross = isWord("cross");
            if (!isCross && !isWord("fond")) {
                return false;
            }
            advance();
            if (!isNumber(MOST_MOOD)) {
                return false;
            }
            int m = takeNumber();
            draft.moods[h] = isCross ? -m : m;
            return true;
        }

        private boolean tellHire() {
            advance();
            if (!isNumber(draft.wearers - 1) || draft.wears[value] != NOBODY) {
                return false;
            }
            int w = takeNumber();
            if (!isNumber(draft.beards - 1) || draft.wornBy[value] != NOBODY) {
                return false;
            }
            draft.putOn(w, takeNumber());
            return true;
        }

        private boolean isWord(String word) {
            if (token != WORD || next - first != word.length()) {
                return false;
            }
            for (int i = 0; i < word.length(); i++) {
                if (tape[first + i] != word.charAt(i)) {
                    return false;
                }
            }
            return true;
        }

        private boolean isNumber(int most) {
            return token == NUMBER && value <= most;
        }

        private int takeNumber() {
            int number = value;
            advance();
            return number;
        }

        private void advance() {
            first = next;
            while (first < length && tape[first] == ' ') {
                first++;
            }
            next = first;
            if (first >= length) {
                token = END;
            } else if (isLetter(tape[first])) {
                token = WORD;
                while (next < length && isLetter(tape[next])) {
                    next++;
                }
            } else if (isDigit(tape[first])) {
                token = NUMBER;
                value = 0;
                while (next < length && isDigit(tape[next])) {
                    // A number above MOST_PURSE may stand nowhere, so counting on could only overflow.
                    value = Math.min(MOST_PURSE + 1, value * 10 + tape[next] - '0');
                    next++;
                }
            } else {
                token = tape[first] == ';' ? SIGN : STRANGE;
                next++;
            }
        }

        private static boolean isLetter(int oneByte) {
            return oneByte >= 'a' && oneByte <= 'z';
        }

        private static boolean isDigit(int oneByte) {
            return oneByte >= '0' && oneByte <= '9';
        }
    }

    /** A row of numbers of 8, 16 or 64 bits with their signs; with 0 bits it is MISSING. */
    private static final class Sheet {
        final long[] numbers = new long[MOST_NUMBERS];
        int bits;
        int length;

        void layOut(int newBits, int newLength) {
            bits = newBits;
            length = newLength;
            for (int i = 0; i < MOST_NUMBERS; i++) {
                numbers[i] = 0;
            }
        }

        boolean isMissing() {
            return bits == 0;
        }

        void put(int i, long v) {
            if (bits == 8) {
                numbers[i] = (byte) v;
            } else if (bits == 16) {
                numbers[i] = (short) v;
            } else {
                numbers[i] = v;
            }
        }

        /** Asks without adding the two: their sum might overflow. */
        boolean hasSpan(int from, int n) {
            return from >= 0 && n >= 0 && n <= length && from <= length - n;
        }
    }
}
