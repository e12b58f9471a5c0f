/** The boundary cases that promises 8 to 10, 15 and 16 name: start, run, at, save and back. */
public final class CourseBounds {
    private static final int NONE = SeedChains.NONE;
    private static final Bounds B = new Bounds("CourseBounds");
    private static final int[] NO_SAVED = {-1, 2, 3, 4, Integer.MIN_VALUE, Integer.MAX_VALUE};

    private static void start() {
        B.sentence("Promise 8: Starts: 0");
        SeedChains empty = Recipe.NEW.make();
        B.gives(0, "start() without dates", empty, SeedChains::start);
        B.gives(60, "run(60) without dates", empty, y -> y.run(60));
        B.gives(60, "count(4) without dates", empty, y -> y.count(4));
        B.gives(0, "save() without dates", empty, SeedChains::save);
        B.gives(0, "spans(0, 0) without dates", empty, y -> y.spans(0, 0));
        B.gives(60, "back(0) without dates", empty, y -> y.back(0));
        B.sentence("Promise 8: 1, if there are no such years: then nothing is started");
        SeedChains none = Recipe.NO_YEARS.make();
        B.gives(1, "start() again", none, SeedChains::start);
        B.gone("start() without years", none);
        B.gives(Check.STATE, "counted(0, 5)", none, y -> y.counted(0, 5));
        B.gives(Check.STATE, "apart(0)", none, y -> y.apart(0));
        B.gives(Check.STATE, "agreement(0)", none, y -> y.agreement(0));
        B.gives(Check.STATE, "spans(0, 0)", none, y -> y.spans(0, 0));
        SeedChains ended = Recipe.ALL_DATES.make();
        ended.before(0, 7, 0, 68);
        B.gives(1, "start() under an order that can't hold", ended, SeedChains::start);
        B.gone("start() behind an earlier one", ended);
        SeedChains just = Recipe.ALL_DATES.make();
        just.before(0, 7, 0, 69);
        B.gives(0, "start() under an order that can just hold", just, SeedChains::start);
        B.gives(1, "the least year", just, y -> y.at(0, NONE, 0));
        B.gives(70, "the least year", just, y -> y.at(0, NONE, 7));
        B.sentence("Promise 8: No rows are kept");
        for (Recipe recipe : new Recipe[] {Recipe.READY, Recipe.ALL_ROWS, Recipe.WITHOUT_ROWS}) {
            SeedChains x = recipe.make();
            B.gives(0, "start()", x, SeedChains::start);
            B.gives(0, "count(3)", x, y -> y.count(3));
            B.gives(0, "count(4)", x, y -> y.count(4));
            B.gives(Check.NO_ELEMENT, "at(0, 0, 0)", x, y -> y.at(0, 0, 0));
            B.gives(NONE, "agreement(0)", x, y -> y.agreement(0));
            B.gives(0, "apart(0)", x, y -> y.apart(0));
            B.gives(recipe.years()[0][0], "at(1, now, 0)", x, y -> y.at(1, NONE, 0));
        }
        SeedChains again = Recipe.WITHOUT_ROWS.make();
        again.run(37);
        again.start();
        B.unchanged("a start behind 37 steps", Recipe.WITHOUT_ROWS, again);
        B.sentence("Promise 8: saved states stay");
        SeedChains saved = Recipe.ALL_SAVED.make();
        B.gives(0, "start()", saved, SeedChains::start);
        B.gives(4, "count(5)", saved, y -> y.count(5));
        B.gives(10, "back(3)", saved, y -> y.back(3));
        B.gives(13, "run(3)", saved, y -> y.run(3));
        B.unchanged("start(), back(3) and run(3)", Recipe.ALL_SAVED, saved);
    }

    private static void run() {
        B.sentence("Promise 9: So many steps of each chain: how many rows each has then");
        SeedChains none = Recipe.READY.make();
        B.gives(4, "run(0)", none, y -> y.run(0));
        B.unchanged("run(0)", Recipe.READY, none);
        SeedChains full = Recipe.ALL_ROWS.make();
        B.gives(60, "run(0)", full, y -> y.run(0));
        B.unchanged("run(0)", Recipe.ALL_ROWS, full);
        SeedChains parts = Recipe.WITHOUT_ROWS.make();
        SeedChains whole = Recipe.WITHOUT_ROWS.make();
        for (int step = 1; step <= 41; step++) {
            int s = step;
            B.gives((s - 1) / 2, "step " + s, parts, y -> y.run(1));
        }
        B.gives(20, "41 steps at once", whole, y -> y.run(41));
        for (int chain = 0; chain < 2; chain++) {
            for (int row = NONE; row < 20; row++) {
                int c = chain;
                int r = row;
                B.gives(parts.at(c, r, 1), "one by one and at once", whole, y -> y.at(c, r, 1));
            }
        }
        B.sentence("Promise 9: IllegalArgumentException: steps is not 0 .. 100");
        SeedChains most = Recipe.WITHOUT_ROWS.make();
        B.gives(49, "run(100)", most, y -> y.run(100));
        B.gives(100, "count(4)", most, y -> y.count(4));
        for (int wrong : new int[] {-1, 101, Integer.MIN_VALUE, Integer.MAX_VALUE}) {
            B.argument("run(" + wrong + ")", Recipe.READY, y -> y.run(wrong));
            B.argument("run(" + wrong + ")", Recipe.WITHOUT_ROWS, y -> y.run(wrong));
        }
        B.sentence("Promise 9: IllegalStateException: nothing is started");
        for (int steps : new int[] {0, 1, 100}) {
            B.state("run(" + steps + ")", Recipe.NEW, y -> y.run(steps));
            B.state("run(" + steps + ")", Recipe.NOT_STARTED, y -> y.run(steps));
            B.state("run(" + steps + ")", Recipe.NO_YEARS, y -> y.run(steps));
        }
        tooManyRows();
    }

    private static void tooManyRows() {
        B.sentence("Promise 9: IllegalStateException: or there would be more than 60 rows");
        SeedChains just = Recipe.ALL_SAVED.make();
        B.gives(60, "47 rows more than 13", just, y -> y.run(47));
        B.state("48 rows more than 13", Recipe.ALL_SAVED, y -> y.run(48));
        B.state("87 rows more than 13", Recipe.ALL_SAVED, y -> y.run(87));
        B.state("a row more than 60", Recipe.ALL_ROWS, y -> y.run(1));
        // READY stands at step 9 with 4 rows, keeps steps 11, 13, ..: row 60 is step 121's.
        SeedChains thinned = Recipe.READY.make();
        thinned.run(52);
        B.gives(60, "up to step 121", thinned, y -> y.run(60));
        B.gives(60, "step 122 keeps no row", thinned, y -> y.run(1));
        B.gives(Check.STATE, "step 123 would keep one", thinned, y -> y.run(1));
        B.gives(122, "count(4)", thinned, y -> y.count(4));
        SeedChains quiet = Recipe.ALL_ROWS.make();
        quiet.burn(100);
        B.gives(60, "40 steps of the burn-in with 60 rows", quiet, y -> y.run(40));
        B.gives(Check.STATE, "a step behind it", quiet, y -> y.run(1));
        quiet.thin(20);
        B.gives(60, "19 steps that are thinned out", quiet, y -> y.run(19));
        B.gives(Check.STATE, "step 120", quiet, y -> y.run(1));
        B.gives(119, "count(4)", quiet, y -> y.count(4));
        quiet.start();
        B.gives(0, "100 steps from a start on", quiet, y -> y.run(100));
        SeedChains burnt = Recipe.ALL_SAVED.make();
        burnt.burn(53);
        B.gives(60, "40 burnt and 47 kept", burnt, y -> y.run(87));
        Recipe late = new Recipe("13 rows, burn-in 53", Recipe.ALL_SAVED.years(), () -> {
            SeedChains x = Recipe.ALL_SAVED.make();
            x.burn(53);
            return x;
        });
        B.state("40 burnt and 48 kept", late, y -> y.run(88));
    }

    private static void at() {
        B.sentence("Promise 10: The year of a date in a chain's row; row NONE: now");
        SeedChains x = Recipe.ALL_ROWS.make();
        for (int chain = 0; chain < 2; chain++) {
            long state = 15 + 1000003L * chain;
            for (int row = 0; row < 60; row++) {
                int c = chain;
                int r = row;
                state = 6364136223846793005L * state + 1442695040888963407L;
                int year = 30 + (int) ((state >>> 33) % 8);
                B.gives(year, "at(" + c + ", " + r + ", 0)", x, y -> y.at(c, r, 0));
                if (r == 59) {
                    B.gives(year, "at(" + c + ", NONE, 0)", x, y -> y.at(c, NONE, 0));
                }
            }
        }
        SeedChains moved = Recipe.READY.make();
        SeedChains twin = Recipe.READY.make();
        moved.run(1);
        twin.thin(1);
        twin.run(1);
        B.gives(4, "step 10 is not kept", moved, y -> y.count(3));
        for (int date = 0; date < 3; date++) {
            int d = date;
            B.gives(twin.at(1, 4, d), "now is no row", moved, y -> y.at(1, NONE, d));
        }
        B.sentence("Promise 10: NoSuchElementException: chain, date, a row below NONE");
        for (Recipe recipe : new Recipe[] {Recipe.READY, Recipe.WITHOUT_ROWS, Recipe.NOT_STARTED}) {
            for (int wrong : new int[] {-1, 2, Integer.MIN_VALUE, Integer.MAX_VALUE}) {
                B.noElement("at(" + wrong + ", now, 0)", recipe, y -> y.at(wrong, NONE, 0));
            }
            for (int wrong : new int[] {-1, 3, Integer.MIN_VALUE, Integer.MAX_VALUE}) {
                B.noElement("at(1, now, " + wrong + ")", recipe, y -> y.at(1, NONE, wrong));
            }
            for (int wrong : new int[] {-2, -3, Integer.MIN_VALUE}) {
                B.noElement("at(0, " + wrong + ", 0)", recipe, y -> y.at(0, wrong, 0));
            }
        }
        B.sentence("Promise 10: IllegalStateException: nothing is started");
        for (Recipe recipe : new Recipe[] {Recipe.NOT_STARTED, Recipe.NO_YEARS}) {
            for (int row : new int[] {NONE, 0, 59, 60, Integer.MAX_VALUE}) {
                B.state("at(1, " + row + ", 1)", recipe, y -> y.at(1, row, 1));
            }
        }
        B.sentence("Promise 10: NoSuchElementException: there is no such row");
        B.noElement("at(0, 0, 0)", Recipe.WITHOUT_ROWS, y -> y.at(0, 0, 0));
        B.noElement("at(1, 4, 2)", Recipe.READY, y -> y.at(1, 4, 2));
        B.noElement("at(1, greatest, 2)", Recipe.READY, y -> y.at(1, Integer.MAX_VALUE, 2));
        B.noElement("at(0, 60, 0)", Recipe.ALL_ROWS, y -> y.at(0, 60, 0));
        SeedChains back = Recipe.READY.make();
        back.back(0);
        B.gives(Check.NO_ELEMENT, "a row that is gone behind back(0)", back, y -> y.at(0, 1, 0));
    }

    private static void save() {
        B.sentence("Promise 15: Saves the chains' years, states, rows and how many steps there were: its number");
        SeedChains x = Recipe.WITHOUT_ROWS.make();
        B.gives(0, "save() without rows and steps", x, SeedChains::save);
        x.run(2);
        B.gives(1, "save() without rows, with steps", x, SeedChains::save);
        x.run(99);
        B.gives(2, "save() with 50 rows", x, SeedChains::save);
        x.run(20);
        B.gives(3, "save() with 60 rows", x, SeedChains::save);
        int[][] rowsAndSteps = {{0, 0}, {0, 2}, {50, 101}, {60, 121}};
        for (int which : new int[] {3, 0, 2, 1, 0, 3}) {
            B.gives(rowsAndSteps[which][0], "back(" + which + ")", x, y -> y.back(which));
            B.gives(rowsAndSteps[which][0], "count(3)", x, y -> y.count(3));
            B.gives(rowsAndSteps[which][1], "count(4)", x, y -> y.count(4));
            SeedChains twin = Recipe.WITHOUT_ROWS.make();
            int steps = rowsAndSteps[which][1];
            twin.run(Math.min(steps, 100));
            twin.run(steps - Math.min(steps, 100));
            for (int chain = 0; chain < 2; chain++) {
                int c = chain;
                int last = rowsAndSteps[which][0] - 1;
                B.gives(twin.at(c, NONE, 1), "years now", x, y -> y.at(c, NONE, 1));
                B.gives(twin.at(c, last, 1), "last row", x, y -> y.at(c, last, 1));
                B.gives(twin.at(c, Math.min(0, last), 0), "first row", x, y -> y.at(c, Math.min(0, last), 0));
            }
            x.burn(100);
            twin.burn(100);
            x.thin(20);
            twin.thin(20);
            int more = steps < 100 ? 50 : 1;
            x.run(more);
            twin.run(more);
            x.thin(2);
            x.burn(1);
            for (int chain = 0; chain < 2; chain++) {
                int c = chain;
                B.gives(twin.at(c, NONE, 0), "steps go on with the saved states", x, y -> y.at(c, NONE, 0));
                B.gives(twin.at(c, NONE, 1), "steps go on with the saved states", x, y -> y.at(c, NONE, 1));
            }
        }
        B.sentence("Promise 15: IllegalStateException: nothing is started");
        B.state("save()", Recipe.NEW, SeedChains::save);
        B.state("save()", Recipe.NOT_STARTED, SeedChains::save);
        B.state("save()", Recipe.NO_YEARS, SeedChains::save);
        B.sentence("Promise 15: IllegalStateException: or there are four");
        B.state("a fifth", Recipe.ALL_SAVED, SeedChains::save);
        SeedChains again = Recipe.ALL_SAVED.make();
        again.start();
        B.gives(Check.STATE, "a fifth behind a start", again, SeedChains::save);
        again.back(2);
        B.gives(Check.STATE, "a fifth behind back(2)", again, SeedChains::save);
        again.weight(0, 30, 1);
        again.start();
        for (int i = 0; i < 4; i++) {
            B.gives(i, "four more behind a weight", again, SeedChains::save);
        }
        B.gives(Check.STATE, "a fifth of these", again, SeedChains::save);
    }

    private static void back() {
        B.sentence("Promise 16: Goes back to a saved state (that stays): how many rows each chain has");
        SeedChains x = Recipe.READY.make();
        B.gives(1, "back(0)", x, y -> y.back(0));
        B.gives(1, "back(0) once more", x, y -> y.back(0));
        x.run(17);
        B.gives(3, "back(1)", x, y -> y.back(1));
        B.gives(2, "count(5)", x, y -> y.count(5));
        B.gives(4, "run(1)", x, y -> y.run(1));
        B.unchanged("back there and here and a step", Recipe.READY, x);
        SeedChains overrun = Recipe.ALL_ROWS.make();
        B.gives(10, "back(0)", overrun, y -> y.back(0));
        overrun.thin(2);
        B.gives(35, "other rows over those that were", overrun, y -> y.run(50));
        overrun.thin(1);
        B.gives(10, "back(0)", overrun, y -> y.back(0));
        B.gives(60, "run(50)", overrun, y -> y.run(50));
        B.unchanged("back(0) and the steps again", Recipe.ALL_ROWS, overrun);
        // A thinned course from the start on has other rows from the first one on.
        SeedChains other = Recipe.ALL_SAVED.make();
        other.start();
        other.thin(3);
        B.gives(20, "other rows over all that were", other, y -> y.run(60));
        other.thin(1);
        B.gives(10, "back(3)", other, y -> y.back(3));
        B.gives(13, "run(3)", other, y -> y.run(3));
        B.unchanged("other rows, back(3) and run(3)", Recipe.ALL_SAVED, other);
        B.sentence("Promise 16: what is not saved (burn-in, thin, members, the site) stays as it is");
        SeedChains kept = Recipe.READY.make();
        kept.burn(50);
        kept.thin(7);
        kept.member(0, 0);
        kept.back(0);
        B.gives(50, "the burn-in", kept, y -> y.burn(1));
        B.gives(7, "thin", kept, y -> y.thin(2));
        B.gives(0, "a member", kept, y -> y.member(0, 1));
        B.gives(3, "dates", kept, y -> y.count(0));
        B.gives(1, "orders", kept, y -> y.count(1));
        B.sentence("Promise 16: a state may be saved anew behind it");
        B.gives(2, "save() behind back(0)", kept, SeedChains::save);
        B.gives(1, "back(2)", kept, y -> y.back(2));
        B.gives(4, "count(4)", kept, y -> y.count(4));
        B.sentence("Promise 16: NoSuchElementException");
        for (int wrong : NO_SAVED) {
            B.noElement("back(" + wrong + ") of two", Recipe.READY, y -> y.back(wrong));
        }
        for (int wrong : new int[] {-1, 4, Integer.MIN_VALUE, Integer.MAX_VALUE}) {
            B.noElement("back(" + wrong + ") of four", Recipe.ALL_SAVED, y -> y.back(wrong));
        }
        for (int wrong : new int[] {-1, 0, 1}) {
            B.noElement("back(" + wrong + ") of none", Recipe.NEW, y -> y.back(wrong));
            B.noElement("back(" + wrong + ") of none", Recipe.NOT_STARTED, y -> y.back(wrong));
            B.noElement("back(" + wrong + ") of none", Recipe.WITHOUT_ROWS, y -> y.back(wrong));
            B.noElement("back(" + wrong + ") of none", Recipe.NO_YEARS, y -> y.back(wrong));
        }
    }

    public static void main(String[] args) {
        start();
        run();
        at();
        save();
        back();
        B.end();
    }
}
