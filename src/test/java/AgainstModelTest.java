import java.lang.reflect.InvocationTargetException;
import java.lang.reflect.Method;
import java.util.ArrayList;
import java.util.Arrays;
import java.util.Comparator;
import java.util.List;

/** Long runs of calls, ordinary, edgy and wrong ones, on the class and on the model side by side. */
public final class AgainstModelTest {
    private static final int RUNS = 500;
    private static final int CALLS = 480;
    private static final int[] WILD = {
        Integer.MIN_VALUE, Integer.MIN_VALUE + 1, -1000000001, -52, -2, -1, 0, 1, 7, 41, 61, 101, 201, 1000,
        10000, 100000, Integer.MAX_VALUE - 1, Integer.MAX_VALUE
    };
    private static final String[] SCRAPS = {
        "beard", "ginger", "white", "moustache", "imperial", "patriarch", "fame", "hoard", "wearer", "round",
        "house", "fond", "cross", "hire", ";", ";;", "0", "5", "6", "50", "51", "99", "100", "999", "1000",
        "9999", "10000", "99999999999999999999", "007", "beards", "B", "\t", "\n", "-1", ".", "\u00ff", "\u0000", ""
    };

    /** What a run in which much is hired for long leaves out most times. */
    private static final List<String> LETTING_GO = List.of("back", "undo", "tear", "wipe");

    private long seed;
    private boolean isRich;

    private AgainstModelTest(long seed) {
        this.seed = seed;
    }

    private int below(int n) {
        seed = seed * 6364136223846793005L + 1442695040888963407L;
        return (int) ((seed >>> 33) % n);
    }

    private int between(int least, int most) {
        return least + below(most - least + 1);
    }

    private boolean oneIn(int n) {
        return below(n) == 0;
    }

    private int nearly(int least, int most) {
        if (oneIn(40)) {
            return WILD[below(WILD.length)];
        }
        if (oneIn(40)) {
            return oneIn(2) ? least - 1 : most + 1;
        }
        return oneIn(12) ? (oneIn(2) ? least : most) : between(least, most);
    }

    private int aBeard(Model m) {
        return nearly(0, Math.max(0, (int) m.call("count", 0) - 1));
    }

    private int aWearer(Model m) {
        return nearly(0, Math.max(0, (int) m.call("count", 1) - 1));
    }

    private long[] arguments(String name, Model m) {
        switch (name) {
            case "mood": return new long[] {nearly(0, 5), nearly(-50, 50)};
            case "recall": return new long[] {nearly(0, 5), oneIn(5) ? -1 : aBeard(m)};
            case "houseOf": return new long[] {nearly(0, 5), nearly(0, 2)};
            case "now": return new long[] {nearly(0, 4)};
            case "beard": return new long[] {nearly(0, 5)};
            case "of": return new long[] {aBeard(m), nearly(0, 5)};
            case "can": return new long[] {aBeard(m), nearly(0, 5), nearly(0, 1)};
            case "set": return oneIn(2)
                ? new long[] {aBeard(m), 1, nearly(0, 99)} : new long[] {aBeard(m), nearly(1, 2), nearly(0, 999)};
            case "turn": return new long[] {aBeard(m), nearly(0, 5)};
            case "as": return new long[] {aBeard(m), nearly(0, 5)};
            case "wearer": return new long[] {nearly(0, oneIn(2) ? 300 : 9999)};
            case "wearerOf": return new long[] {aWearer(m), nearly(0, 3)};
            case "give": return oneIn(3)
                ? new long[] {aWearer(m), 1, nearly(0, 5)}
                : new long[] {aWearer(m), nearly(0, 1), nearly(0, oneIn(2) ? 500 : 9999)};
            case "hire": return new long[] {aWearer(m), aBeard(m)};
            case "back": return new long[] {aBeard(m)};
            case "nights": return new long[] {oneIn(3) ? nearly(1, 100) : between(1, 7)};
            case "on": return new long[] {aWearer(m), nearly(0, 200), nearly(0, 1)};
            case "then": return new long[] {aBeard(m), nearly(0, 200), nearly(0, 1)};
            case "fond": return new long[] {nearly(0, 5), nearly(0, 200)};
            case "home": return new long[] {aBeard(m)};
            case "falls": return new long[] {aWearer(m), nearly(0, oneIn(2) ? 200 : 9999)};
            case "best": case "round": case "enough": return new long[] {aWearer(m), nearly(1, 60)};
            case "kind": return new long[] {aBeard(m), nearly(1, 60)};
            case "please": {
                int w = aWearer(m);
                int n = nearly(1, 60);
                long near = m.call("on", Math.max(0, Math.min(w, 5)), Math.max(0, Math.min(n, 60)), 0);
                int v = near >= 0 && oneIn(2) ? (int) near + between(-9, 20) : nearly(0, 9999);
                return new long[] {w, nearly(0, 5), n, v};
            }
            case "richest": return new long[] {nearly(0, 200)};
            case "feed": return new long[] {WILD[below(WILD.length)] ^ seed & 0xffffffffL << 32 >> 32, nearly(1, 4)};
            case "sheet": return new long[] {
                nearly(0, 3), oneIn(8) ? nearly(0, 64) : new int[] {0, 8, 8, 16, 16, 64, 64}[below(7)], nearly(0, 40)};
            case "write": return new long[] {nearly(0, 3), nearly(0, oneIn(2) ? 6 : 39),
                oneIn(3) ? between(0, 9999) : oneIn(2) ? nearly(-200, 70000) : seed};
            case "copy": return new long[] {
                nearly(0, 3), nearly(0, oneIn(2) ? 5 : 20), nearly(0, 3), nearly(0, 9), nearly(0, 12)};
            case "lays": return new long[] {nearly(0, 3)};
            case "book": return new long[] {nearly(0, 3), aWearer(m)};
            case "read": return new long[] {nearly(0, 3), aWearer(m), aBeard(m)};
            case "count": return new long[] {nearly(0, 3)};
            case "status": return new long[] {nearly(-1, 6)};
            default: return new long[0];
        }
    }

    private String anItem() {
        String gap = oneIn(3) ? "  " : " ";
        switch (below(4)) {
            case 0: return SCRAPS[below(6)] + (oneIn(2) ? gap + "fame" + gap + nearly(0, 99) : "")
                + (oneIn(2) ? gap + "hoard" + between(0, 999) : "");
            case 1: return "wearer " + between(0, 9999) + (oneIn(2) ? "round " + nearly(0, 5) : "");
            case 2: return "house" + gap + nearly(0, 5) + (oneIn(2) ? "fond" : " cross ") + between(0, 50);
            default: return "hire " + between(0, 5) + gap + between(0, 7);
        }
    }

    private String aText() {
        StringBuilder text = new StringBuilder();
        int items = between(1, 5);
        for (int i = 0; i < items; i++) {
            text.append(i == 0 ? "" : oneIn(2) ? ";" : " ; ").append(anItem());
        }
        if (oneIn(3)) {
            int at = below(text.length() + 1);
            text.insert(at, " " + SCRAPS[below(SCRAPS.length)] + (oneIn(2) ? " " : ""));
        }
        if (oneIn(6)) {
            text.setLength(below(text.length() + 1));
        }
        return text.substring(0, Math.min(120, text.length()));
    }

    private static long answered(Method method, BeardHire x, long[] a) throws ReflectiveOperationException {
        Object[] boxed = new Object[a.length];
        for (int i = 0; i < a.length; i++) {
            if (method.getParameterTypes()[i] == long.class) {
                boxed[i] = a[i];
            } else {
                boxed[i] = (int) a[i];
            }
        }
        return ((Number) method.invoke(x, boxed)).longValue();
    }

    /** Fills the shop first, so that more of the calls find something to ask of. */
    private void enrich(BeardHire x, Model m, Model asker, List<String> made) {
        for (int i = 0; i < 6; i++) {
            int purse = between(200, 9999);
            int kind = below(6);
            for (Model one : new Model[] {m, asker}) {
                one.call("wearer", purse);
                one.call("beard", kind);
                one.call("hire", i, i);
                one.call("sheet", i, 16, 6);
            }
            x.wearer(purse);
            x.beard(kind);
            x.hire(i, i);
            x.sheet(i, 16, 6);
            made.add("wearer(" + purse + "), beard(" + kind + "), hire(" + i + ", " + i + "), sheet(" + i + ", 16, 6)");
        }
    }

    /** Says what is wrong, or null. */
    private String run(Method[] methods) throws ReflectiveOperationException {
        BeardHire x = new BeardHire();
        Model asker = new Model();
        Model m = new Model();
        List<String> made = new ArrayList<>();
        isRich = oneIn(2);
        if (isRich) {
            enrich(x, m, asker, made);
        }
        for (int call = 0; call < CALLS; call++) {
            Method method = methods[below(methods.length)];
            if (isRich && LETTING_GO.contains(method.getName()) && !oneIn(10)) {
                continue;
            }
            String name = method.getName();
            if (name.equals("shop") && oneIn(2)) {
                String text = aText();
                call += text.length() + 1;
                if (call >= CALLS) {
                    break;
                }
                x.wipe();
                m.call("wipe");
                asker.call("wipe");
                made.add("wipe, feed \"" + text + "\"");
                for (char c : text.toCharArray()) {
                    x.feed(c, 1);
                    m.call("feed", c, 1);
                    asker.call("feed", c, 1);
                }
            }
            // arguments are asked of a second model, so that asking counts no finding in the first
            long[] a = arguments(name, asker);
            for (int i = 0; i < a.length; i++) {
                a[i] = method.getParameterTypes()[i] == long.class ? a[i] : (int) a[i];
            }
            long want = m.call(name, a);
            asker.call(name, a);
            made.add(name + Arrays.toString(a) + " " + want);
            long got;
            try {
                got = answered(method, x, a);
            } catch (InvocationTargetException e) {
                return String.join("\n", made) + "\nbut it threw " + e.getCause();
            }
            if (got != want) {
                return String.join("\n", made) + "\nbut it answered " + got;
            }
        }
        return null;
    }

    public static void main(String[] args) throws ReflectiveOperationException {
        Method[] methods = Arrays.stream(BeardHire.class.getDeclaredMethods())
            .filter(method -> java.lang.reflect.Modifier.isPublic(method.getModifiers()))
            .sorted(Comparator.comparing(Method::getName))
            .toArray(Method[]::new);
        for (int run = 0; run < RUNS; run++) {
            String wrong = new AgainstModelTest(run * 7919L + 1).run(methods);
            if (wrong != null) {
                System.out.println("run " + run + ":\n" + wrong);
                System.exit(1);
            }
        }
        System.out.println("all " + RUNS + " runs are as the model's");
    }
}
