import java.nio.charset.StandardCharsets;
import java.util.ArrayList;
import java.util.Arrays;
import java.util.List;
import java.util.regex.Matcher;
import java.util.regex.Pattern;

/**
 * The document told a second time, in another way and without care for speed or room: each AHEAD
 * is a deep copy, a finding is an exception, a beard knows nothing of who wears it. Tests compare
 * the class with it.
 */
final class Model {
    private static final String[] NAMES = {"beard", "ginger", "white", "moustache", "imperial", "patriarch"};
    private static final String[] FINDINGS = {"BEYOND", "FULL", "KIND", "NONE", "STATE", "MISSING", "SIZE"};
    private static final Pattern TOKEN = Pattern.compile("[a-z]+|[0-9]+|;|(?s:.)");

    private static final class Finding extends RuntimeException {
        private static final long serialVersionUID = 1;
        final int which;

        Finding(String name) {
            super(name);
            which = Arrays.asList(FINDINGS).indexOf(name);
        }
    }

    private static final class Fault extends RuntimeException {
        private static final long serialVersionUID = 1;
        final int place;

        Fault(int place) {
            this.place = place;
        }
    }

    private static final class Beard {
        int kind;
        int fame = 10;
        int hoard;
    }

    private static final class Wearer {
        int purse;
        int round;
        Beard on;
    }

    private static final class World {
        int night;
        final List<Beard> beards = new ArrayList<>();
        final List<Wearer> wearers = new ArrayList<>();
        final int[] mood = new int[6];
        final Beard[] remembers = new Beard[6];

        World copied() {
            World c = new World();
            c.night = night;
            for (Beard b : beards) {
                Beard d = new Beard();
                d.kind = b.kind;
                d.fame = b.fame;
                d.hoard = b.hoard;
                c.beards.add(d);
            }
            for (Wearer w : wearers) {
                Wearer v = new Wearer();
                v.purse = w.purse;
                v.round = w.round;
                v.on = w.on == null ? null : c.beards.get(beards.indexOf(w.on));
                c.wearers.add(v);
            }
            for (int h = 0; h < 6; h++) {
                c.mood[h] = mood[h];
                c.remembers[h] = remembers[h] == null ? null : c.beards.get(beards.indexOf(remembers[h]));
            }
            return c;
        }

        World ahead(int n) {
            World c = copied();
            for (int i = 0; i < n; i++) {
                c.goNight();
            }
            return c;
        }

        boolean monday() {
            return night % 7 == 0;
        }

        int number(Beard b) {
            return beards.indexOf(b);
        }

        Wearer wearing(Beard b) {
            return wearers.stream().filter(w -> w.on == b).findFirst().orElse(null);
        }

        int costs(Beard b) {
            int ginger = 5 + b.fame / 10;
            return new int[] {5, ginger, 12, 2, 2 * ginger, 12 + b.hoard / 50}[b.kind];
        }

        int meets(Beard b, int h) {
            int plain = remembers[h] == b ? Integer.signum(mood[h]) * (Math.abs(mood[h]) / 10) : 0;
            int ginger = plain - (b.fame > 50 ? 4 : 0);
            int white = plain > 0 ? plain : -6;
            return new int[] {plain, ginger, white, plain + 1, ginger + (mood[h] > 20 ? 10 : 0), 2 * white}[b.kind];
        }

        int leaves(Beard b) {
            int ginger = b.fame > 50 ? -5 : 3;
            return new int[] {3, ginger, 7, 1, ginger + 1, 7}[b.kind];
        }

        int gains(Beard b) {
            return new int[] {1, 3, 1, 0, monday() ? 0 : 3, -1}[b.kind];
        }

        void goNight() {
            for (Wearer w : wearers) {
                if (w.on == null) {
                    continue;
                }
                Beard b = w.on;
                if (w.purse < costs(b)) {
                    w.on = null;
                    continue;
                }
                w.purse -= costs(b);
                int h = (night + w.round) % 6;
                int met = meets(b, h);
                int left = leaves(b);
                int gained = gains(b);
                w.purse = Math.min(9999, Math.max(0, w.purse + met));
                b.hoard = Math.min(999, b.hoard + (met > 0 ? 3 : 1));
                mood[h] = Math.min(50, Math.max(-50, mood[h] + left));
                remembers[h] = b;
                b.fame = Math.min(99, Math.max(0, b.fame + gained));
            }
            if (monday()) {
                for (Beard b : beards) {
                    if (wearing(b) == null) {
                        b.hoard = 0;
                    }
                }
            }
            night++;
        }

        int purses() {
            return wearers.stream().mapToInt(w -> w.purse).sum();
        }
    }

    private World world = new World();
    private World kept;
    private final List<Integer> tape = new ArrayList<>();
    private final int[] bits = new int[4];
    private final long[][] rows = new long[4][];
    private final int[] found = new int[7];

    long call(String name, long... a) {
        try {
            return act(name, a);
        } catch (Finding f) {
            found[f.which]++;
            return -1000000001L - f.which;
        }
    }

    private static void ask(boolean fine, String otherwise) {
        if (!fine) {
            throw new Finding(otherwise);
        }
    }

    private static int within(long v, int least, int most) {
        ask(v >= least && v <= most, "BEYOND");
        return (int) v;
    }

    private Beard aBeard(long n) {
        return world.beards.get(within(n, 0, world.beards.size() - 1));
    }

    private Wearer aWearer(long n) {
        return world.wearers.get(within(n, 0, world.wearers.size() - 1));
    }

    private long act(String name, long[] a) {
        switch (name) {
            case "mood": case "recall": case "houseOf": case "now":
                return actHouses(name, a);
            case "beard": case "of": case "can": case "set": case "turn": case "as":
                return actBeards(name, a);
            case "wearer": case "wearerOf": case "give": case "hire": case "back":
                return actWearers(name, a);
            case "nights": case "on": case "then": case "fond": case "home": case "falls":
                return actNights(name, a);
            case "best": case "round": case "kind": case "enough": case "please": case "richest":
                return actBest(name, a);
            case "sheet": case "write": case "copy": case "lays": case "book": case "read":
                return actSheets(name, a);
            default:
                return actOthers(name, a);
        }
    }

    private long actHouses(String name, long[] a) {
        if (name.equals("now")) {
            switch (within(a[0], 0, 4)) {
                case 0: return world.night;
                case 1: return world.monday() ? 1 : 0;
                case 2: {
                    long set = 0;
                    for (Beard b : world.beards) {
                        set += world.wearing(b) == null ? 1L << world.number(b) : 0;
                    }
                    return set;
                }
                case 3: {
                    long set = 0;
                    for (int w = 0; w < world.wearers.size(); w++) {
                        set += world.wearers.get(w).on != null ? 1L << w : 0;
                    }
                    return set;
                }
                default: return world.purses();
            }
        }
        int h = within(a[0], 0, 5);
        if (name.equals("mood")) {
            int was = world.mood[h];
            world.mood[h] = within(a[1], -50, 50);
            return was;
        }
        if (name.equals("recall")) {
            Beard next = a[1] == -1 ? null : aBeard(a[1]);
            int was = world.number(world.remembers[h]);
            world.remembers[h] = next;
            return was;
        }
        switch (within(a[1], 0, 2)) {
            case 0: return 100 + world.mood[h];
            case 1: return world.number(world.remembers[h]);
            default: {
                long set = 0;
                for (int w = 0; w < world.wearers.size(); w++) {
                    set += (world.night + world.wearers.get(w).round) % 6 == h ? 1L << w : 0;
                }
                return set;
            }
        }
    }

    private long actBeards(String name, long[] a) {
        if (name.equals("beard")) {
            int k = within(a[0], 0, 5);
            ask(world.beards.size() < 8, "FULL");
            Beard b = new Beard();
            b.kind = k;
            world.beards.add(b);
            return world.beards.size() - 1;
        }
        Beard b = aBeard(a[0]);
        switch (name) {
            case "of": {
                int what = within(a[1], 0, 5);
                return new long[] {b.kind, b.fame, b.hoard, world.wearers.indexOf(world.wearing(b)),
                    world.costs(b), 100 + world.gains(b)}[what];
            }
            case "can": {
                int h = within(a[1], 0, 5);
                return 100 + (within(a[2], 0, 1) == 0 ? world.meets(b, h) : world.leaves(b));
            }
            case "set": {
                boolean isFame = within(a[1], 1, 2) == 1;
                int v = within(a[2], 0, isFame ? 99 : 999);
                int was = isFame ? b.fame : b.hoard;
                if (isFame) {
                    b.fame = v;
                } else {
                    b.hoard = v;
                }
                return was;
            }
            case "turn": {
                int was = b.kind;
                b.kind = within(a[1], 0, 5);
                return was;
            }
            default: {
                int k = within(a[1], 0, 5);
                String under = new String[] {"0", "01", "02", "03", "014", "025"}[b.kind];
                ask(under.indexOf('0' + k) >= 0, "KIND");
                return b.fame;
            }
        }
    }

    private long actWearers(String name, long[] a) {
        switch (name) {
            case "wearer": {
                int purse = within(a[0], 0, 9999);
                ask(world.wearers.size() < 6, "FULL");
                Wearer w = new Wearer();
                w.purse = purse;
                w.round = world.wearers.size();
                world.wearers.add(w);
                return w.round;
            }
            case "wearerOf": {
                Wearer w = aWearer(a[0]);
                int what = within(a[1], 0, 3);
                return new long[] {w.purse, w.round, world.number(w.on), (world.night + w.round) % 6}[what];
            }
            case "give": {
                Wearer w = aWearer(a[0]);
                boolean isPurse = within(a[1], 0, 1) == 0;
                int v = within(a[2], 0, isPurse ? 9999 : 5);
                int was = isPurse ? w.purse : w.round;
                if (isPurse) {
                    w.purse = v;
                } else {
                    w.round = v;
                }
                return was;
            }
            case "hire": {
                Wearer w = aWearer(a[0]);
                Beard b = aBeard(a[1]);
                ask(w.on == null && world.wearing(b) == null, "STATE");
                w.on = b;
                return world.costs(b);
            }
            default: {
                Wearer w = world.wearing(aBeard(a[0]));
                ask(w != null, "STATE");
                w.on = null;
                return world.wearers.indexOf(w);
            }
        }
    }

    private long actNights(String name, long[] a) {
        switch (name) {
            case "nights": {
                int n = within(a[0], 1, 100);
                ask(world.night + n <= 99999, "STATE");
                world = world.ahead(n);
                return world.purses();
            }
            case "on": {
                aWearer(a[0]);
                World then = world.ahead(within(a[1], 0, 200));
                Wearer w = then.wearers.get((int) a[0]);
                return within(a[2], 0, 1) == 0 ? w.purse : then.number(w.on);
            }
            case "then": {
                aBeard(a[0]);
                Beard b = world.ahead(within(a[1], 0, 200)).beards.get((int) a[0]);
                return within(a[2], 0, 1) == 0 ? b.fame : b.hoard;
            }
            case "fond":
                return world.ahead(within(a[1], 0, 200)).mood[within(a[0], 0, 5)];
            case "home": {
                aBeard(a[0]);
                World then = world.copied();
                int n = 0;
                while (then.wearing(then.beards.get((int) a[0])) != null) {
                    ask(n < 200, "NONE");
                    then.goNight();
                    n++;
                }
                return n;
            }
            default: {
                aWearer(a[0]);
                int v = within(a[1], 0, 9999);
                World then = world.copied();
                int n = 0;
                while (then.wearers.get((int) a[0]).purse > v) {
                    ask(n < 200, "NONE");
                    then.goNight();
                    n++;
                }
                return n;
            }
        }
    }

    private long actBest(String name, long[] a) {
        switch (name) {
            case "best": {
                Wearer w = aWearer(a[0]);
                int n = within(a[1], 1, 60);
                ask(w.on == null, "STATE");
                int[] gets = new int[world.beards.size()];
                for (int b = 0; b < gets.length; b++) {
                    World c = world.copied();
                    gets[b] = -1;
                    if (c.wearing(c.beards.get(b)) == null) {
                        c.wearers.get((int) a[0]).on = c.beards.get(b);
                        gets[b] = c.ahead(n).wearers.get((int) a[0]).purse;
                    }
                }
                ask(Arrays.stream(gets).anyMatch(g -> g >= 0), "NONE");
                return firstMost(gets);
            }
            case "round": {
                aWearer(a[0]);
                int n = within(a[1], 1, 60);
                int[] gets = new int[6];
                for (int r = 0; r < 6; r++) {
                    World c = world.copied();
                    c.wearers.get((int) a[0]).round = r;
                    gets[r] = c.ahead(n).wearers.get((int) a[0]).purse;
                }
                return firstMost(gets);
            }
            case "kind": {
                aBeard(a[0]);
                int n = within(a[1], 1, 60);
                int[] gets = new int[6];
                for (int k = 0; k < 6; k++) {
                    World c = world.copied();
                    c.beards.get((int) a[0]).kind = k;
                    gets[k] = c.ahead(n).purses();
                }
                return firstMost(gets);
            }
            case "enough": {
                Wearer w = aWearer(a[0]);
                int n = within(a[1], 1, 60);
                ask(w.on != null, "STATE");
                for (int p = 0; p <= 2000; p += 10) {
                    World c = world.copied();
                    c.wearers.get((int) a[0]).purse = p;
                    World then = c.ahead(n);
                    if (then.number(then.wearers.get((int) a[0]).on) == world.number(w.on)) {
                        return p;
                    }
                }
                throw new Finding("NONE");
            }
            case "please": {
                aWearer(a[0]);
                int h = within(a[1], 0, 5);
                int n = within(a[2], 1, 60);
                int v = within(a[3], 0, 9999);
                for (int m = -50; m <= 50; m++) {
                    World c = world.copied();
                    c.mood[h] = m;
                    if (c.ahead(n).wearers.get((int) a[0]).purse >= v) {
                        return m;
                    }
                }
                throw new Finding("NONE");
            }
            default: {
                World then = world.ahead(within(a[0], 0, 200));
                ask(!then.beards.isEmpty(), "NONE");
                return firstMost(then.beards.stream().mapToInt(b -> b.hoard).toArray());
            }
        }
    }

    private static int firstMost(int[] gets) {
        int most = Arrays.stream(gets).max().getAsInt();
        int i = 0;
        while (gets[i] != most) {
            i++;
        }
        return i;
    }

    private long[] row(long s) {
        long[] row = rows[within(s, 0, 3)];
        ask(row != null, "MISSING");
        return row;
    }

    private static long cut(long v, int bits) {
        return bits == 64 ? v : v << (64 - bits) >> (64 - bits);
    }

    private long actSheets(String name, long[] a) {
        switch (name) {
            case "sheet": {
                int s = within(a[0], 0, 3);
                ask(a[1] == 0 || a[1] == 8 || a[1] == 16 || a[1] == 64, "BEYOND");
                ask(a[2] >= 0, "SIZE");
                int n = within(a[2], 0, 40);
                bits[s] = (int) a[1];
                rows[s] = a[1] == 0 ? null : new long[n];
                return a[1] == 0 ? 0 : n;
            }
            case "write": {
                long[] row = row(a[0]);
                int i = within(a[1], 0, row.length - 1);
                long was = row[i];
                row[i] = cut(a[2], bits[(int) a[0]]);
                return was;
            }
            case "copy": {
                int s = within(a[0], 0, 3);
                int t = within(a[2], 0, 3);
                long[] source = row(s);
                long[] target = row(t);
                ask(bits[s] == bits[t], "KIND");
                ask(a[1] >= 0 && a[3] >= 0 && a[4] >= 0, "BEYOND");
                ask(a[1] + a[4] <= source.length && a[3] + a[4] <= target.length, "BEYOND");
                long[] before = source.clone();
                for (int i = 0; i < a[4]; i++) {
                    target[(int) a[3] + i] = before[(int) a[1] + i];
                }
                return a[4];
            }
            case "lays": {
                long[] row = row(a[0]);
                int came = 0;
                for (int i = 0; i < row.length; i++) {
                    if (i < world.wearers.size() && row[i] >= 0 && row[i] <= 9999) {
                        world.wearers.get(i).purse = (int) row[i];
                        came++;
                    }
                }
                return came;
            }
            case "book": {
                long[] row = row(a[0]);
                aWearer(a[1]);
                for (int i = 0; i < row.length; i++) {
                    row[i] = cut(world.ahead(i).wearers.get((int) a[1]).purse, bits[(int) a[0]]);
                }
                return row.length;
            }
            default: {
                long[] row = row(a[0]);
                aWearer(a[1]);
                aBeard(a[2]);
                int pairs = 0;
                for (int pair = 0; pair < 36; pair++) {
                    World c = world.copied();
                    c.beards.get((int) a[2]).kind = pair / 6;
                    c.wearers.get((int) a[1]).round = pair % 6;
                    boolean same = true;
                    for (long number : row) {
                        same &= c.wearers.get((int) a[1]).purse == number;
                        c.goNight();
                    }
                    pairs += same ? 1 : 0;
                }
                return pairs;
            }
        }
    }

    private long actOthers(String name, long[] a) {
        switch (name) {
            case "feed": {
                int n = within(a[1], 1, 4);
                ask(tape.size() + n <= 120, "FULL");
                for (int b = n - 1; b >= 0; b--) {
                    tape.add((int) (a[0] >> (8 * b)) & 255);
                }
                return tape.size();
            }
            case "wipe": {
                int had = tape.size();
                tape.clear();
                return had;
            }
            case "shop": {
                byte[] bytes = new byte[tape.size()];
                for (int i = 0; i < bytes.length; i++) {
                    bytes[i] = tape.get(i).byteValue();
                }
                tape.clear();
                World draft = world.copied();
                try {
                    int items = new Told(new String(bytes, StandardCharsets.ISO_8859_1), draft).items();
                    world = draft;
                    return items;
                } catch (Fault f) {
                    return -1 - f.place;
                }
            }
            case "image":
                kept = world.copied();
                return 1;
            case "undo":
                ask(kept != null, "NONE");
                world = kept.copied();
                return world.beards.size();
            case "tear": {
                int had = kept == null ? 0 : 1;
                kept = null;
                return had;
            }
            case "count": {
                int what = within(a[0], 0, 3);
                return new int[] {world.beards.size(), world.wearers.size(), tape.size(),
                    world.beards.stream().mapToInt(b -> b.hoard).sum()}[what];
            }
            case "status":
                return a[0] == -1 ? Arrays.stream(found).sum() : found[within(a[0], 0, 6)];
            default:
                throw new IllegalArgumentException(name);
        }
    }

    /** Reads a text as a list of tokens with their places; a place behind the last is the end. */
    private static final class Told {
        private final World draft;
        private final List<String> tokens = new ArrayList<>();
        private final List<Integer> places = new ArrayList<>();
        private int at;

        Told(String text, World draft) {
            this.draft = draft;
            Matcher m = TOKEN.matcher(text);
            while (m.find()) {
                if (!m.group().equals(" ")) {
                    tokens.add(m.group());
                    places.add(m.start());
                }
            }
            tokens.add("");
            places.add(text.length());
        }

        private Fault fault() {
            return new Fault(places.get(at));
        }

        private boolean took(String token) {
            if (tokens.get(at).equals(token)) {
                at++;
                return true;
            }
            return false;
        }

        private int number(int most) {
            String token = tokens.get(at);
            if (!token.matches("[0-9]+") || new java.math.BigInteger(token).bitLength() > 20
                    || Integer.parseInt(token) > most) {
                throw fault();
            }
            at++;
            return Integer.parseInt(token);
        }

        int items() {
            int n = 0;
            do {
                item();
                n++;
            } while (took(";"));
            if (!tokens.get(at).isEmpty()) {
                throw fault();
            }
            return n;
        }

        private void item() {
            int k = Arrays.asList(NAMES).indexOf(tokens.get(at));
            if (k >= 0) {
                if (draft.beards.size() == 8) {
                    throw fault();
                }
                at++;
                Beard b = new Beard();
                b.kind = k;
                b.fame = took("fame") ? number(99) : 10;
                b.hoard = took("hoard") ? number(999) : 0;
                draft.beards.add(b);
            } else if (tokens.get(at).equals("wearer")) {
                if (draft.wearers.size() == 6) {
                    throw fault();
                }
                at++;
                Wearer w = new Wearer();
                w.purse = number(9999);
                w.round = took("round") ? number(5) : draft.wearers.size();
                draft.wearers.add(w);
            } else if (took("house")) {
                int h = number(5);
                int sign = took("fond") ? 1 : took("cross") ? -1 : 0;
                if (sign == 0) {
                    throw fault();
                }
                draft.mood[h] = sign * number(50);
            } else if (took("hire")) {
                Wearer w = draft.wearers.get(number(draft.wearers.size() - 1));
                if (w.on != null) {
                    at--;
                    throw fault();
                }
                Beard b = draft.beards.get(number(draft.beards.size() - 1));
                if (draft.wearing(b) != null) {
                    at--;
                    throw fault();
                }
                w.on = b;
            } else {
                throw fault();
            }
        }
    }
}
