import java.util.ArrayList;
import java.util.List;

/**
 * All that can be seen of an object, as a row of told answers. Looking uses the object up: the
 * course that was started, its saved states and at last its weights are gone behind it.
 */
final class Sight {
    /** The document promises nothing behind an object's 512th call; a recipe has its own calls too. */
    private static final int MOST_CALLS = 400;

    private final SeedChains x;
    private final int[][] years;
    private final int chains;
    private final List<String> told = new ArrayList<>();
    private int calls = 0;

    private Sight(SeedChains x, int[][] years) {
        this.x = x;
        this.years = years;
        this.chains = x.count(2);
    }

    /** Of an object whose dates have these first and last years. */
    static List<String> of(SeedChains x, int[][] years) {
        Sight sight = new Sight(x, years);
        sight.counts();
        sight.settings();
        sight.rows();
        sight.answersOfRows();
        sight.stepsToCome();
        sight.savedStates();
        sight.startAgain();
        sight.weights();
        return sight.told;
    }

    private int tell(String what, Check.Call call) {
        calls++;
        if (calls > MOST_CALLS) {
            throw new IllegalStateException("too many calls to look at one object");
        }
        int outcome = Check.outcome(call);
        told.add(what + " = " + Check.shown(outcome));
        return outcome;
    }

    private void counts() {
        for (int i = 0; i <= 5; i++) {
            int what = i;
            tell("count(" + what + ")", () -> x.count(what));
        }
    }

    /** What a change answers is what it was; it is put back at once. */
    private void settings() {
        int steps = tell("burn-in", () -> x.burn(0));
        tell("burn-in, put back", () -> x.burn(steps));
        int every = tell("thin", () -> x.thin(1));
        tell("thin, put back", () -> x.thin(every));
        for (int i = 0; i < years.length; i++) {
            int date = i;
            int phase = tell("phase of " + date, () -> x.member(date, SeedChains.NONE));
            tell("phase of " + date + ", put back", () -> x.member(date, phase));
        }
    }

    private void yearsNow(String when) {
        for (int i = 0; i < chains; i++) {
            for (int j = 0; j < years.length; j++) {
                int chain = i;
                int date = j;
                tell(when + ": at(" + chain + ", now, " + date + ")", () -> x.at(chain, SeedChains.NONE, date));
            }
        }
    }

    private void rows() {
        yearsNow("now");
        int kept = tell("rows", () -> x.count(3));
        for (int i = 0; i < chains * kept * years.length; i++) {
            int chain = i / (kept * years.length);
            int row = i / years.length % kept;
            int date = i % years.length;
            tell("at(" + chain + ", " + row + ", " + date + ")", () -> x.at(chain, row, date));
        }
    }

    private void answersOfRows() {
        for (int i = 0; i < years.length; i++) {
            int date = i;
            tell("counted first of " + date, () -> x.counted(date, years[date][0]));
            tell("counted last of " + date, () -> x.counted(date, years[date][1]));
            tell("apart(" + date + ")", () -> x.apart(date));
            tell("agreement(" + date + ")", () -> x.agreement(date));
        }
        for (int i = 0; i <= 3; i++) {
            int phase = i;
            tell("spans(" + phase + ", 0)", () -> x.spans(phase, 0));
        }
    }

    /** The states are seen by what they draw; so are the orders. */
    private void stepsToCome() {
        tell("a step more", () -> x.run(1));
        yearsNow("a step more");
        tell("five steps more", () -> x.run(5));
        yearsNow("five steps more");
    }

    private void savedStates() {
        int saved = tell("saved states", () -> x.count(5));
        for (int i = 0; i < saved; i++) {
            int which = i;
            tell("back(" + which + ")", () -> x.back(which));
            tell("steps of " + which, () -> x.count(4));
            yearsNow("back at " + which);
            int lastRow = tell("rows of " + which, () -> x.count(3)) - 1;
            for (int j = 0; j < years.length; j++) {
                int date = j;
                tell("first row of " + which, () -> x.at(0, 0, date));
                tell("last row of " + which, () -> x.at(0, lastRow, date));
            }
            tell("a step from " + which, () -> x.run(1));
            yearsNow("a step from " + which);
        }
    }

    private void startAgain() {
        tell("start()", x::start);
        yearsNow("started again");
        tell("run(2)", () -> x.run(2));
        yearsNow("two steps from the start");
    }

    private void weights() {
        for (int i = 0; i < years.length; i++) {
            for (int j = years[i][0]; j <= years[i][1]; j++) {
                int date = i;
                int year = j;
                tell("weight of " + year + " of " + date, () -> x.weight(date, year, 1));
            }
        }
    }
}
