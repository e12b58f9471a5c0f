import java.util.List;

/**
 * Tests of boundary cases, told by the sentence of the document that names them. A refused call is
 * always looked at twice: which exception it throws, and that it changed nothing that can be seen.
 */
final class Bounds {
    interface Act {
        int on(SeedChains x);
    }

    static final int[] FAR = {Integer.MIN_VALUE, Integer.MAX_VALUE};

    private final Check check = new Check();
    private final String name;
    private String sentence = "";
    private int sentences = 0;

    Bounds(String name) {
        this.name = name;
    }

    /** What comes behind is a test of this sentence. */
    void sentence(String text) {
        sentence = text;
        sentences++;
    }

    void gives(int want, String call, SeedChains x, Act act) {
        check.due(sentence + " | " + call, want, () -> act.on(x));
    }

    void that(String what, boolean holds) {
        check.that(sentence + " | " + what, holds);
    }

    void noElement(String call, Recipe recipe, Act act) {
        refuses(Check.NO_ELEMENT, call, recipe, act);
    }

    void argument(String call, Recipe recipe, Act act) {
        refuses(Check.ARGUMENT, call, recipe, act);
    }

    void state(String call, Recipe recipe, Act act) {
        refuses(Check.STATE, call, recipe, act);
    }

    private void refuses(int exception, String call, Recipe recipe, Act act) {
        SeedChains x = recipe.make();
        gives(exception, recipe.name() + ": " + call, x, act);
        unchanged(call, recipe, x);
    }

    /** The object looks like one that the recipe has just made. */
    void unchanged(String call, Recipe recipe, SeedChains x) {
        List<String> want = Sight.of(recipe.make(), recipe.years());
        List<String> got = Sight.of(x, recipe.years());
        int at = 0;
        while (at < want.size() && at < got.size() && want.get(at).equals(got.get(at))) {
            at++;
        }
        boolean same = want.equals(got);
        that(recipe.name() + ": " + call + " changed nothing" + (same ? ""
                : ", but " + (at < got.size() ? got.get(at) : "the end") + ", due is "
                    + (at < want.size() ? want.get(at) : "the end")), same);
    }

    /** Nothing is started and nothing is saved. */
    void gone(String call, SeedChains x) {
        gives(Check.STATE, call + ", then run(0)", x, y -> y.run(0));
        gives(Check.STATE, call + ", then save()", x, SeedChains::save);
        gives(Check.STATE, call + ", then at(0, now, 0)", x, y -> y.at(0, SeedChains.NONE, 0));
        gives(Check.NO_ELEMENT, call + ", then back(0)", x, y -> y.back(0));
        for (int what = 3; what <= 5; what++) {
            int w = what;
            gives(0, call + ", then count(" + w + ")", x, y -> y.count(w));
        }
    }

    void end() {
        System.out.println(name + ": " + sentences + " sentences");
        check.end(name);
    }
}
