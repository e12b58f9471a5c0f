/** The boundary cases that promises 11 to 14 and 17 name: what is counted over the kept rows. */
public final class LookBounds {
    private static final int NONE = SeedChains.NONE;
    private static final Bounds B = new Bounds("LookBounds");
    private static final Recipe[] NOTHING_STARTED = {Recipe.NOT_STARTED, Recipe.NO_YEARS};

    private static SeedChains withDates(int seed, int chains, int[]... years) {
        SeedChains x = new SeedChains(seed, chains);
        for (int[] pair : years) {
            x.date(pair[0], pair[1]);
        }
        return x;
    }

    private static void counted() {
        B.sentence("Promise 11: How many rows of all chains have a year of a date");
        SeedChains x = Recipe.ALL_ROWS.make();
        int[] rows = new int[8];
        for (int i = 0; i < 120; i++) {
            rows[x.at(i / 60, i % 60, 0) - 30]++;
        }
        for (int i = 0; i < 8; i++) {
            int year = 30 + i;
            B.that("year " + year + " is in the rows", rows[i] > 0);
            B.gives(rows[i], "counted(0, " + year + ")", x, y -> y.counted(0, year));
        }
        SeedChains one = withDates(1, 4, new int[] {255, 255}, new int[] {0, 0});
        one.start();
        one.run(60);
        B.gives(240, "the greatest count, the last year", one, y -> y.counted(0, 255));
        B.gives(240, "the greatest count, the first year", one, y -> y.counted(1, 0));
        SeedChains none = Recipe.WITHOUT_ROWS.make();
        for (int year = 10; year <= 14; year++) {
            int y0 = year;
            B.gives(0, "counted(0, " + y0 + ") without rows", none, y -> y.counted(0, y0));
        }
        none.run(2);
        B.gives(0, "the years now are no row", none, y -> y.counted(0, y.at(0, NONE, 0)));
        B.sentence("Promise 11: NoSuchElementException");
        for (Recipe recipe : new Recipe[] {Recipe.READY, Recipe.WITHOUT_ROWS, Recipe.NOT_STARTED}) {
            for (int wrong : new int[] {-1, 3, Integer.MIN_VALUE, Integer.MAX_VALUE}) {
                B.noElement("counted(" + wrong + ", 12)", recipe, y -> y.counted(wrong, 12));
            }
            for (int wrong : new int[] {9, 15, -1, 256, Integer.MIN_VALUE, Integer.MAX_VALUE}) {
                B.noElement("counted(0, " + wrong + ")", recipe, y -> y.counted(0, wrong));
            }
            B.noElement("counted(2, -1)", recipe, y -> y.counted(2, -1));
            B.noElement("counted(2, 3)", recipe, y -> y.counted(2, 3));
        }
        B.sentence("Promise 11: IllegalStateException: nothing is started");
        for (Recipe recipe : NOTHING_STARTED) {
            int first = recipe.years()[1][0];
            int last = recipe.years()[1][1];
            B.state("counted(1, first)", recipe, y -> y.counted(1, first));
            B.state("counted(1, last)", recipe, y -> y.counted(1, last));
        }
    }

    private static int sum(SeedChains x, int chain, int date) {
        int sum = 0;
        int rows = x.count(3);
        for (int row = 0; row < rows; row++) {
            sum += x.at(chain, row, date);
        }
        return sum;
    }

    private static void apart() {
        B.sentence("Promise 12: the greatest sum of a date's years over a chain's rows, less the least one");
        boolean[] greatestAt = new boolean[4];
        boolean[] leastAt = new boolean[4];
        for (int seed = 0; seed < 40; seed++) {
            SeedChains x = withDates(seed, 4, new int[] {200, 255});
            x.start();
            x.run(seed % 7 + 1);
            int greatest = 0;
            int least = 0;
            int[] sums = new int[4];
            for (int chain = 0; chain < 4; chain++) {
                sums[chain] = sum(x, chain, 0);
                greatest = sums[chain] > sums[greatest] ? chain : greatest;
                least = sums[chain] < sums[least] ? chain : least;
            }
            greatestAt[greatest] = true;
            leastAt[least] = true;
            B.gives(sums[greatest] - sums[least], "seed " + seed, x, y -> y.apart(0));
        }
        for (int chain = 0; chain < 4; chain++) {
            B.that("chain " + chain + " had the greatest and the least sum", greatestAt[chain] && leastAt[chain]);
        }
        SeedChains two = Recipe.ALL_ROWS.make();
        int apart = Math.abs(sum(two, 0, 0) - sum(two, 1, 0));
        B.gives(apart, "60 rows", two, y -> y.apart(0));
        SeedChains alone = withDates(1, 1, new int[] {0, 63});
        alone.start();
        alone.run(60);
        B.gives(0, "one chain", alone, y -> y.apart(0));
        SeedChains none = Recipe.WITHOUT_ROWS.make();
        B.gives(0, "without rows", none, y -> y.apart(0));
        none.run(2);
        B.gives(0, "the years now are no row", none, y -> y.apart(0));
        SeedChains one = withDates(1, 4, new int[] {255, 255});
        one.start();
        one.run(60);
        B.gives(0, "the same sums", one, y -> y.apart(0));
        B.sentence("Promise 12: NoSuchElementException");
        for (Recipe recipe : new Recipe[] {Recipe.READY, Recipe.WITHOUT_ROWS, Recipe.NOT_STARTED}) {
            for (int wrong : new int[] {-1, 3, 8, Integer.MIN_VALUE, Integer.MAX_VALUE}) {
                B.noElement("apart(" + wrong + ")", recipe, y -> y.apart(wrong));
            }
        }
        B.sentence("Promise 12: IllegalStateException: nothing is started");
        for (Recipe recipe : NOTHING_STARTED) {
            B.state("apart(0)", recipe, y -> y.apart(0));
            B.state("apart(1)", recipe, y -> y.apart(1));
        }
    }

    private static void agreement() {
        B.sentence("Promise 13: 1000 times the sum of the weights of a date's years in all rows, divided by how many rows there are times its greatest weight (the rest falls)");
        for (int rows : new int[] {1, 2, 3, 7, 59, 60}) {
            SeedChains x = withDates(12, 3, new int[] {0, 3});
            int[] weights = {1, 7, 3, 2};
            for (int year = 0; year <= 3; year++) {
                x.weight(0, year, weights[year]);
            }
            x.start();
            x.run(rows);
            long sum = 0;
            for (int i = 0; i < 3 * rows; i++) {
                sum += weights[x.at(i / rows, i % rows, 0)];
            }
            int due = (int) (1000 * sum / (3 * rows * 7));
            B.gives(due, rows + " rows", x, y -> y.agreement(0));
        }
        SeedChains least = withDates(9, 4, new int[] {5, 6}, new int[] {100, 100});
        least.weight(0, 6, 1000);
        least.before(0, 1, 95, 95);
        least.start();
        least.run(60);
        B.gives(1, "the least: weight 1 of 1000, the greatest weight out of reach", least, y -> y.agreement(0));
        SeedChains fallen = withDates(9, 4, new int[] {5, 7}, new int[] {100, 100});
        fallen.weight(0, 6, 3);
        fallen.weight(0, 5, 2);
        fallen.before(0, 1, 95, 95);
        fallen.start();
        fallen.run(60);
        B.gives(666, "two thirds fall to 666", fallen, y -> y.agreement(0));
        SeedChains single = withDates(9, 1, new int[] {3, 8});
        single.start();
        single.run(1);
        B.gives(1000, "one row of one chain, weight 1", single, y -> y.agreement(0));
        SeedChains most = withDates(9, 4, new int[] {255, 255});
        most.weight(0, 255, 1000);
        most.start();
        most.run(60);
        B.gives(1000, "the greatest sum: 240 times 1000", most, y -> y.agreement(0));
        greatestWeightAtTheEnds();
        B.sentence("Promise 13: NONE without rows");
        SeedChains none = Recipe.WITHOUT_ROWS.make();
        B.gives(NONE, "agreement(0)", none, y -> y.agreement(0));
        none.run(2);
        B.gives(NONE, "agreement(0) behind steps that are not kept", none, y -> y.agreement(0));
        none.run(1);
        B.that("agreement(0) with a row", none.agreement(0) > 0);
        none.start();
        B.gives(NONE, "agreement(0) behind a start", none, y -> y.agreement(0));
        B.sentence("Promise 13: NoSuchElementException");
        for (Recipe recipe : new Recipe[] {Recipe.READY, Recipe.WITHOUT_ROWS, Recipe.NOT_STARTED}) {
            for (int wrong : new int[] {-1, 3, 8, Integer.MIN_VALUE, Integer.MAX_VALUE}) {
                B.noElement("agreement(" + wrong + ")", recipe, y -> y.agreement(wrong));
            }
        }
        B.sentence("Promise 13: IllegalStateException: nothing is started");
        for (Recipe recipe : NOTHING_STARTED) {
            B.state("agreement(0)", recipe, y -> y.agreement(0));
            B.state("agreement(1)", recipe, y -> y.agreement(1));
        }
    }

    /** The greatest weight is found at the first year, at the last one, and nowhere outside. */
    private static void greatestWeightAtTheEnds() {
        for (int heavy : new int[] {20, 83}) {
            SeedChains x = withDates(4, 2, new int[] {20, 83}, new int[] {20, 83});
            x.weight(0, heavy, 500);
            x.weight(1, 50, 1000);
            x.start();
            x.run(10);
            long sum = 0;
            for (int i = 0; i < 20; i++) {
                sum += x.at(i / 10, i % 10, 0) == heavy ? 500 : 1;
            }
            int due = (int) (1000 * sum / (20 * 500));
            B.gives(due, "the greatest weight at " + heavy, x, y -> y.agreement(0));
        }
    }

    private static void spans() {
        B.sentence("Promise 14: How many rows of all chains have a phase's members so many years apart, from the first to the last of them");
        SeedChains x = withDates(1, 4, new int[] {100, 100}, new int[] {0, 0}, new int[] {255, 255}, new int[] {254, 254});
        x.member(0, 3);
        x.start();
        x.run(60);
        B.gives(240, "one member: 0 years", x, y -> y.spans(3, 0));
        B.gives(0, "one member: 1 year", x, y -> y.spans(3, 1));
        x.member(1, 3);
        B.gives(240, "the first date is the later one", x, y -> y.spans(3, 100));
        x.member(3, 3);
        B.gives(240, "three members", x, y -> y.spans(3, 254));
        x.member(2, 3);
        B.gives(240, "255 years", x, y -> y.spans(3, 255));
        B.gives(0, "not the others", x, y -> y.spans(3, 254));
        B.gives(0, "not between the first dates", x, y -> y.spans(3, 100));
        x.member(2, 0);
        x.member(1, 1);
        B.gives(240, "year 255 alone", x, y -> y.spans(0, 0));
        B.gives(240, "year 0 alone", x, y -> y.spans(1, 0));
        SeedChains ready = Recipe.READY.make();
        int all = 0;
        for (int years = 0; years <= 9; years++) {
            int n = years;
            int rows = 0;
            for (int i = 0; i < 8; i++) {
                rows += ready.at(i / 4, i % 4, 1) - ready.at(i / 4, i % 4, 0) == n ? 1 : 0;
            }
            all += rows;
            B.gives(rows, "spans(1, " + n + ")", ready, y -> y.spans(1, n));
        }
        B.that("all rows have a span", all == 8);
        SeedChains none = Recipe.WITHOUT_ROWS.make();
        none.run(2);
        B.gives(0, "without rows", none, y -> y.spans(3, 0));
        B.sentence("Promise 14: 0 without members");
        SeedChains empty = Recipe.READY.make();
        B.gives(0, "spans(0, 0)", empty, y -> y.spans(0, 0));
        B.gives(0, "spans(0, 1)", empty, y -> y.spans(0, 1));
        B.gives(0, "spans(0, 255)", empty, y -> y.spans(0, 255));
        B.gives(8, "spans(3, 0)", empty, y -> y.spans(3, 0));
        empty.member(2, NONE);
        B.gives(0, "spans(3, 0) without its member", empty, y -> y.spans(3, 0));
        SeedChains dateless = Recipe.NEW.make();
        dateless.start();
        dateless.run(3);
        B.gives(0, "spans(0, 0) without dates", dateless, y -> y.spans(0, 0));
        B.sentence("Promise 14: NoSuchElementException: phase");
        for (Recipe recipe : new Recipe[] {Recipe.READY, Recipe.NOT_STARTED, Recipe.NEW}) {
            for (int wrong : new int[] {NONE, -2, 4, Integer.MIN_VALUE, Integer.MAX_VALUE}) {
                B.noElement("spans(" + wrong + ", 0)", recipe, y -> y.spans(wrong, 0));
            }
        }
        B.sentence("Promise 14: IllegalArgumentException: years is not 0 .. 255");
        for (Recipe recipe : new Recipe[] {Recipe.READY, Recipe.NOT_STARTED, Recipe.NEW}) {
            for (int wrong : new int[] {-1, -2, 256, Integer.MIN_VALUE, Integer.MAX_VALUE}) {
                B.argument("spans(0, " + wrong + ")", recipe, y -> y.spans(0, wrong));
                B.argument("spans(3, " + wrong + ")", recipe, y -> y.spans(3, wrong));
            }
        }
        B.sentence("Promise 14: IllegalStateException: nothing is started");
        for (Recipe recipe : new Recipe[] {Recipe.NOT_STARTED, Recipe.NO_YEARS, Recipe.NEW}) {
            B.state("spans(0, 0)", recipe, y -> y.spans(0, 0));
            B.state("spans(3, 255)", recipe, y -> y.spans(3, 255));
        }
    }

    private static void counts(String what, SeedChains x, int... due) {
        for (int i = 0; i <= 5; i++) {
            int w = i;
            B.gives(due[w], what + ": count(" + w + ")", x, y -> y.count(w));
        }
    }

    private static void count() {
        B.sentence("Promise 17: 0 dates, 1 orders, 2 chains, 3 rows of each chain, 4 steps, 5 saved states");
        counts("new", Recipe.NEW.make(), 0, 0, 2, 0, 0, 0);
        counts("ready", Recipe.READY.make(), 3, 1, 2, 4, 9, 2);
        counts("eight dates", Recipe.ALL_DATES.make(), 8, 1, 1, 4, 4, 1);
        counts("24 orders", Recipe.ALL_ORDERS.make(), 2, 24, 2, 6, 6, 1);
        counts("60 rows", Recipe.ALL_ROWS.make(), 1, 0, 2, 60, 60, 1);
        counts("four saved states", Recipe.ALL_SAVED.make(), 1, 0, 2, 13, 13, 4);
        B.sentence("Promise 17: (3, 4: 0 if nothing is started)");
        counts("not started", Recipe.NOT_STARTED.make(), 3, 1, 2, 0, 0, 0);
        counts("no years", Recipe.NO_YEARS.make(), 2, 1, 2, 0, 0, 0);
        SeedChains ended = Recipe.READY.make();
        ended.weight(0, 10, 3);
        counts("ended by a weight", ended, 3, 1, 2, 0, 0, 0);
        SeedChains again = Recipe.READY.make();
        again.start();
        counts("started again", again, 3, 1, 2, 0, 0, 2);
        again.back(0);
        counts("gone back", again, 3, 1, 2, 1, 4, 2);
        SeedChains many = Recipe.WITHOUT_ROWS.make();
        many.burn(100);
        many.thin(20);
        for (int i = 1; i <= 13; i++) {
            many.run(100);
        }
        counts("1300 steps, every 20th behind 100", many, 3, 1, 2, 60, 1300, 0);
        B.sentence("Promise 17: NoSuchElementException: none of these");
        for (Recipe recipe : new Recipe[] {Recipe.READY, Recipe.NOT_STARTED, Recipe.NEW}) {
            for (int wrong : new int[] {-1, 6, Integer.MIN_VALUE, Integer.MAX_VALUE}) {
                B.noElement("count(" + wrong + ")", recipe, y -> y.count(wrong));
            }
        }
    }

    public static void main(String[] args) {
        counted();
        apart();
        agreement();
        spans();
        count();
        B.end();
    }
}
