import java.util.HashSet;
import java.util.Set;
import java.util.function.Supplier;

/** Which sentence of the document is being tested, and what came of it. */
final class Edges {
    /** A call on an object. */
    interface Call {
        long of(BeardHire x);
    }

    private final Doc doc;
    private final Due due = new Due();
    private final Set<String> tested = new HashSet<>();
    private String sentence;

    Edges(Doc doc) {
        this.doc = doc;
    }

    /** What is asked from here on is asked for this sentence of a promise (0: of the Terms). */
    void says(int promise, String quoted) {
        sentence = doc.find(promise, quoted);
    }

    void is(String call, long got, long want) {
        tested.add(sentence);
        due.is("\"" + sentence + "\"\n    " + call, got, want);
    }

    /** The call answers the finding in a busy shop, and changes nothing but status(). */
    void refused(String call, long finding, Call act) {
        refused(Scene::busy, call, finding, act);
    }

    void refused(Supplier<BeardHire> scene, String call, long finding, Call act) {
        BeardHire x = scene.get();
        String before = Scene.seen(x) + Scene.sheets(x);
        int[] counted = new int[8];
        for (int which = -1; which < 7; which++) {
            counted[which + 1] = x.status(which);
        }
        is(call, act.of(x), finding);
        for (int which = -1; which < 7; which++) {
            boolean counts = which == -1 || which == Due.BEYOND - finding;
            is(call + ": status(" + which + ")", x.status(which), counted[which + 1] + (counts ? 1 : 0));
        }
        same(call, before, Scene.seen(x) + Scene.sheets(x));
        same(call, Scene.hidden(scene.get()), Scene.hidden(x));
    }

    /** The call answers no finding, and changes nothing at all. */
    void onlyLooks(Supplier<BeardHire> scene, String call, Call act) {
        BeardHire x = scene.get();
        String before = Scene.seen(x) + Scene.sheets(x);
        int findings = x.status(-1);
        act.of(x);
        is(call + ": status(-1)", x.status(-1), findings);
        same(call, before, Scene.seen(x) + Scene.sheets(x));
        same(call, Scene.hidden(scene.get()), Scene.hidden(x));
    }

    private void same(String call, String want, String got) {
        is(call + " changed" + want + "\n    to" + got, want.equals(got) ? 0 : 1, 0);
    }

    /** Numbers just outside of a range, and the farthest ones. */
    static int[] outside(int least, int most) {
        return new int[] {Integer.MIN_VALUE, least - 1, most + 1, Integer.MAX_VALUE};
    }

    void end() {
        for (String one : doc.all()) {
            if (!tested.contains(one)) {
                due.is("no test for \"" + one + "\":", 0, 1);
            }
        }
        due.end();
    }
}
