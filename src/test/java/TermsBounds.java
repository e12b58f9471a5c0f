import java.math.BigInteger;

/** The boundary cases that the sentences of "What it is" and "Terms" name. */
public final class TermsBounds {
    private static final int NONE = SeedChains.NONE;
    private static final Bounds B = new Bounds("TermsBounds");

    private static SeedChains withDates(int seed, int chains, int[]... years) {
        SeedChains x = new SeedChains(seed, chains);
        for (int[] pair : years) {
            x.date(pair[0], pair[1]);
        }
        return x;
    }

    private static int[] years(int first, int last) {
        return new int[] {first, last};
    }

    /** The document's draws of a chain, in numbers that don't wrap by themselves. */
    private static final class Draws {
        private static final BigInteger WHOLE = BigInteger.ONE.shiftLeft(64);
        private BigInteger state;

        Draws(long state) {
            this.state = BigInteger.valueOf(state).mod(WHOLE);
        }

        int next(int sum) {
            state = state.multiply(new BigInteger("6364136223846793005"))
                    .add(new BigInteger("1442695040888963407")).mod(WHOLE);
            return state.shiftRight(33).mod(BigInteger.valueOf(sum)).intValue();
        }

        boolean highBit() {
            return state.testBit(63);
        }
    }

    private static void calls() {
        B.sentence("An object is used for at most 512 calls after it has been made");
        SeedChains x = new SeedChains(9, 1);
        Draws draws = new Draws(9);
        x.date(0, 63);
        x.start();
        x.burn(99);
        x.thin(8);
        // Four calls are done; 507 steps one by one leave the last call to look.
        int row = 0;
        for (int step = 1; step <= 507; step++) {
            int year = draws.next(64);
            boolean kept = step > 99 && (step - 99) % 8 == 0;
            int rows = row + (kept ? 1 : 0);
            B.gives(rows, "call " + (step + 4) + ", run(1)", x, y -> y.run(1));
            row = rows;
            if (step == 507) {
                B.gives(year, "call 512, at(0, now, 0)", x, y -> y.at(0, NONE, 0));
            }
        }
    }

    private static void yearsFrom0To255() {
        B.sentence("YEARS are 0 .. 255");
        for (int[] pair : new int[][] {{0, 0}, {0, 5}, {250, 255}, {255, 255}}) {
            SeedChains x = new SeedChains(1, 1);
            B.gives(0, "date(" + pair[0] + ", " + pair[1] + ")", x, y -> y.date(pair[0], pair[1]));
            B.gives(0, "start()", x, SeedChains::start);
            B.gives(pair[0], "the first year", x, y -> y.at(0, NONE, 0));
        }
        for (int[] pair : new int[][] {{-1, -1}, {-1, 0}, {-1, 5}, {255, 256}, {250, 256}, {256, 256}, {256, 255}}) {
            B.argument("date(" + pair[0] + ", " + pair[1] + ")", Recipe.READY, y -> y.date(pair[0], pair[1]));
        }
        for (int far : Bounds.FAR) {
            B.argument("date(far, 5)", Recipe.READY, y -> y.date(far, 5));
            B.argument("date(5, far)", Recipe.READY, y -> y.date(5, far));
            B.argument("date(far, far)", Recipe.READY, y -> y.date(far, far));
        }
        B.argument("date(greatest, least)", Recipe.READY, y -> y.date(Integer.MAX_VALUE, Integer.MIN_VALUE));
        B.argument("date(least, greatest)", Recipe.READY, y -> y.date(Integer.MIN_VALUE, Integer.MAX_VALUE));
    }

    private static void noDate(String which, int date, Recipe recipe) {
        B.noElement("weight of " + which, recipe, x -> x.weight(date, 0, 1));
        B.noElement("before from " + which, recipe, x -> x.before(date, 0, 0, 1));
        B.noElement("before to " + which, recipe, x -> x.before(0, date, 0, 1));
        B.noElement("member " + which, recipe, x -> x.member(date, 0));
        B.noElement("at of " + which, recipe, x -> x.at(0, NONE, date));
        B.noElement("counted of " + which, recipe, x -> x.counted(date, 0));
        B.noElement("apart of " + which, recipe, x -> x.apart(date));
        B.noElement("agreement of " + which, recipe, x -> x.agreement(date));
    }

    private static void datesFrom0To7() {
        B.sentence("DATES are 0 .. 7");
        SeedChains x = new SeedChains(1, 1);
        for (int i = 0; i <= 7; i++) {
            B.gives(i, "date " + i, x, y -> y.date(40, 40));
        }
        B.gives(8, "count(0)", x, y -> y.count(0));
        for (int date : new int[] {0, 7}) {
            SeedChains full = Recipe.ALL_DATES.make();
            int first = date * 10;
            int sum = full.at(0, 0, date) + full.at(0, 1, date) + full.at(0, 2, date) + full.at(0, 3, date);
            B.that("at of date " + date, sum >= 4 * first && sum <= 4 * first + 4);
            B.gives(sum - 4 * first, "counted of date " + date, full, y -> y.counted(date, first + 1));
            B.gives(0, "apart of date " + date, full, y -> y.apart(date));
            B.gives(1000, "agreement of date " + date, full, y -> y.agreement(date));
            B.gives(NONE, "member " + date, full, y -> y.member(date, 2));
            B.gives(4, "spans of date " + date, full, y -> y.spans(2, 0));
            B.gives(1, "weight of date " + date, full, y -> y.weight(date, first, 9));
            B.gives(1, "before " + date, full, y -> y.before(date, 7 - date, 0, 0));
        }
        noDate("date -1", -1, Recipe.ALL_DATES);
        noDate("date 8", 8, Recipe.ALL_DATES);
        noDate("date 3 of three", 3, Recipe.READY);
        noDate("date -1 of three", -1, Recipe.READY);
        noDate("date 3 of three", 3, Recipe.NOT_STARTED);
        noDate("date 0 of none", 0, Recipe.NEW);
        for (int far : Bounds.FAR) {
            noDate("date far", far, Recipe.READY);
            noDate("date far", far, Recipe.NEW);
        }
    }

    private static void notMoreThan63Apart() {
        B.sentence("each with a FIRST and a LAST year, not more than 63 apart");
        for (int[] pair : new int[][] {{0, 63}, {100, 163}, {192, 255}, {7, 7}}) {
            SeedChains x = new SeedChains(1, 1);
            B.gives(0, "date(" + pair[0] + ", " + pair[1] + ")", x, y -> y.date(pair[0], pair[1]));
        }
        for (int[] pair : new int[][] {{0, 64}, {100, 164}, {191, 255}, {0, 255}, {8, 7}, {63, 0}, {255, 0}}) {
            B.argument("date(" + pair[0] + ", " + pair[1] + ")", Recipe.READY, y -> y.date(pair[0], pair[1]));
            B.argument("date(" + pair[0] + ", " + pair[1] + ")", Recipe.NEW, y -> y.date(pair[0], pair[1]));
        }
    }

    private static void weightsFrom1To1000() {
        B.sentence("and a WEIGHT 1 .. 1000 (1 at first)");
        SeedChains x = withDates(1, 1, years(10, 12));
        B.gives(1, "weight(0, 10, 1000)", x, y -> y.weight(0, 10, 1000));
        B.gives(1000, "weight(0, 10, 1)", x, y -> y.weight(0, 10, 1));
        B.gives(1, "weight(0, 10, 1)", x, y -> y.weight(0, 10, 1));
        for (int w : new int[] {0, -1, 1001, Integer.MIN_VALUE, Integer.MAX_VALUE}) {
            B.argument("weight(0, 10, " + w + ")", Recipe.READY, y -> y.weight(0, 10, w));
            B.argument("weight(2, 2, " + w + ")", Recipe.NOT_STARTED, y -> y.weight(2, 2, w));
        }
    }

    private static void weightsOfEachYear() {
        B.sentence("for each year between (both with it)");
        SeedChains x = withDates(1, 1, years(192, 255), years(0, 63), years(5, 5));
        for (int year = 0; year <= 63; year++) {
            int w = year;
            B.gives(1, "weight of " + (192 + w), x, y -> y.weight(0, 192 + w, 2 + w));
            B.gives(1, "weight of " + w, x, y -> y.weight(1, w, 100 + w));
        }
        for (int year = 0; year <= 63; year++) {
            int w = year;
            B.gives(2 + w, "weight of " + (192 + w) + " again", x, y -> y.weight(0, 192 + w, 1));
            B.gives(100 + w, "weight of " + w + " again", x, y -> y.weight(1, w, 1));
        }
        B.gives(1, "weight of the one year", x, y -> y.weight(2, 5, 1));
        for (int[] pair : new int[][] {{0, 9}, {0, 15}, {1, 11}, {1, 19}, {2, -1}, {2, 3}}) {
            B.noElement("weight(" + pair[0] + ", " + pair[1] + ", 1)", Recipe.READY, y -> y.weight(pair[0], pair[1], 1));
            B.noElement("counted(" + pair[0] + ", " + pair[1] + ")", Recipe.READY, y -> y.counted(pair[0], pair[1]));
        }
        for (int far : Bounds.FAR) {
            B.noElement("weight of year far", Recipe.READY, y -> y.weight(1, far, 1));
            B.noElement("counted of year far", Recipe.READY, y -> y.counted(1, far));
        }
    }

    private static void atMost24Orders() {
        B.sentence("At most 24 ORDERS");
        SeedChains x = withDates(1, 1, years(0, 1), years(0, 1));
        for (int i = 0; i < 24; i++) {
            B.gives(i, "order " + i, x, y -> y.before(0, 1, 0, 1));
        }
        B.gives(24, "count(1)", x, y -> y.count(1));
        B.state("a 25th", Recipe.ALL_ORDERS, y -> y.before(0, 1, 0, 255));
        B.state("a 25th, the other way", Recipe.ALL_ORDERS, y -> y.before(1, 0, 0, 0));
        // The recipe's first order alone says 3 at most, its last one alone 1 at least.
        SeedChains full = Recipe.ALL_ORDERS.make();
        for (int chain = 0; chain < 2; chain++) {
            for (int row = 0; row < 6; row++) {
                int behind = full.at(chain, row, 1) - full.at(chain, row, 0);
                B.that("the first and the last of 24 hold", behind >= 1 && behind <= 3);
            }
        }
    }

    /** Whether two dates of one year each can stand under an order. */
    private static void stands(boolean due, int a, int b, int least, int most) {
        SeedChains x = withDates(1, 1, years(a, a), years(b, b));
        String order = a + ", " + b + " under " + least + " .. " + most;
        B.gives(0, "before, " + order, x, y -> y.before(0, 1, least, most));
        B.gives(due ? 0 : 1, "start, " + order, x, SeedChains::start);
    }

    private static void ordersFrom0To255() {
        B.sentence("a date is behind another one by at least so many and at most so many years, 0 .. 255");
        stands(true, 7, 7, 0, 0);
        stands(false, 7, 8, 0, 0);
        stands(false, 8, 7, 0, 0);
        stands(true, 0, 255, 255, 255);
        stands(false, 0, 254, 255, 255);
        stands(false, 1, 255, 255, 255);
        stands(true, 0, 255, 0, 255);
        stands(false, 0, 255, 0, 254);
        stands(true, 10, 14, 4, 9);
        stands(false, 10, 13, 4, 9);
        stands(true, 10, 19, 4, 9);
        stands(false, 10, 20, 4, 9);
        stands(false, 14, 10, 0, 255);
        stands(false, 14, 10, 4, 9);
        for (int[] pair : new int[][] {{-1, 0}, {-1, -1}, {0, -1}, {0, 256}, {255, 256}, {256, 256}, {256, 255}}) {
            B.argument("before(0, 1, " + pair[0] + ", " + pair[1] + ")", Recipe.READY, x -> x.before(0, 1, pair[0], pair[1]));
        }
        for (int far : Bounds.FAR) {
            B.argument("before, least far", Recipe.READY, x -> x.before(0, 1, far, 255));
            B.argument("before, most far", Recipe.READY, x -> x.before(0, 1, 0, far));
            B.argument("before, both far", Recipe.READY, x -> x.before(0, 1, far, far));
        }
    }

    private static void phasesFrom0To3() {
        B.sentence("PHASES are 0 .. 3");
        SeedChains x = Recipe.READY.make();
        x.member(1, NONE);
        x.member(2, NONE);
        for (int phase = 0; phase <= 3; phase++) {
            int p = phase;
            int was = p == 0 ? 1 : p - 1;
            B.gives(was, "member(0, " + p + ")", x, y -> y.member(0, p));
            B.gives(8, "spans(" + p + ", 0)", x, y -> y.spans(p, 0));
        }
        for (int phase : new int[] {-2, 4, Integer.MIN_VALUE, Integer.MAX_VALUE}) {
            B.noElement("member(0, " + phase + ")", Recipe.READY, y -> y.member(0, phase));
            B.noElement("member(0, " + phase + ")", Recipe.NOT_STARTED, y -> y.member(0, phase));
            B.noElement("spans(" + phase + ", 0)", Recipe.READY, y -> y.spans(phase, 0));
            B.noElement("spans(" + phase + ", 0)", Recipe.NOT_STARTED, y -> y.spans(phase, 0));
        }
        B.noElement("spans(NONE, 0)", Recipe.READY, y -> y.spans(NONE, 0));
    }

    private static void memberOfOne() {
        B.sentence("a date may be a member of one");
        SeedChains x = Recipe.WITHOUT_ROWS.make();
        x.run(5);
        x.member(2, NONE);
        for (int phase = 0; phase <= 3; phase++) {
            int p = phase;
            x.member(0, p);
            x.member(1, NONE);
            for (int other = 0; other <= 3; other++) {
                int o = other;
                B.gives(o == p ? 4 : 0, "member of " + p + ": spans(" + o + ", 0)", x, y -> y.spans(o, 0));
            }
        }
    }

    private static void oneToFourChains() {
        B.sentence("CHAINS are 0, 1, .. , one to four of them (what it is given below or above counts as the least or the greatest)");
        int[][] pairs = {{Integer.MIN_VALUE, 1}, {-1, 1}, {0, 1}, {1, 1}, {2, 2}, {3, 3}, {4, 4}, {5, 4}, {Integer.MAX_VALUE, 4}};
        for (int[] pair : pairs) {
            String given = "chains given as " + pair[0];
            Recipe recipe = new Recipe(given, new int[][] {{3, 5}}, () -> {
                SeedChains x = withDates(1, pair[0], years(3, 5));
                x.start();
                x.run(1);
                return x;
            });
            SeedChains x = recipe.make();
            B.gives(pair[1], given, x, y -> y.count(2));
            int all = x.counted(0, 3) + x.counted(0, 4) + x.counted(0, 5);
            B.that(given + ": a row each", all == pair[1]);
            for (int chain = 0; chain < pair[1]; chain++) {
                int c = chain;
                int year = 3 + new Draws(1 + 1000003L * c).next(3);
                B.gives(year, given + ": at(" + c + ", 0, 0)", x, y -> y.at(c, 0, 0));
            }
            B.noElement("at(-1, 0, 0)", recipe, y -> y.at(-1, 0, 0));
            B.noElement("at(" + pair[1] + ", 0, 0)", recipe, y -> y.at(pair[1], 0, 0));
            B.noElement("at(" + pair[1] + ", now, 0)", recipe, y -> y.at(pair[1], NONE, 0));
            for (int far : Bounds.FAR) {
                B.noElement("at(far, now, 0)", recipe, y -> y.at(far, NONE, 0));
            }
        }
    }

    private static void statesOf64Bits() {
        B.sentence("a STATE, a number of 64 bits; chain c has the state seed + 1000003 * c");
        int[] seeds = {Integer.MIN_VALUE, Integer.MIN_VALUE + 1, -3000009, -1, 0, 1, Integer.MAX_VALUE - 1, Integer.MAX_VALUE};
        boolean low = false;
        boolean high = false;
        for (int seed : seeds) {
            SeedChains x = withDates(seed, 4, years(100, 163));
            x.start();
            x.run(30);
            for (int chain = 0; chain < 4; chain++) {
                Draws draws = new Draws(seed + 1000003L * chain);
                for (int row = 0; row < 30; row++) {
                    int c = chain;
                    int r = row;
                    int year = 100 + draws.next(64);
                    high |= draws.highBit();
                    low |= !draws.highBit();
                    B.gives(year, "seed " + seed + ": at(" + c + ", " + r + ", 0)", x, y -> y.at(c, r, 0));
                }
            }
        }
        B.that("states with and without the highest bit", low && high);
    }

    private static void leastYears() {
        B.sentence("STARTED, all chains have for each date the least year that it has in any choice of years");
        SeedChains x = withDates(5, 4, years(0, 63), years(3, 60), years(50, 70), years(200, 255));
        x.before(0, 1, 10, 20);
        x.before(1, 2, 0, 15);
        x.before(2, 3, 140, 255);
        x.before(0, 3, 0, 180);
        B.gives(0, "start()", x, SeedChains::start);
        // 50 pulls date 1 up to 35 and date 0 to 15; 200 pulls date 0 up to 20.
        int[] least = {20, 35, 50, 200};
        for (int chain = 0; chain < 4; chain++) {
            for (int date = 0; date < 4; date++) {
                int c = chain;
                int d = date;
                B.gives(least[d], "at(" + c + ", now, " + d + ")", x, y -> y.at(c, NONE, d));
            }
        }
        B.sentence("by which all dates lie between their first and last year and all orders hold");
        SeedChains up = withDates(5, 1, years(10, 20), years(0, 30));
        up.before(0, 1, 20, 255);
        B.gives(0, "just up to the last year", up, SeedChains::start);
        B.gives(30, "the last year", up, y -> y.at(0, NONE, 1));
        up.before(0, 1, 21, 255);
        B.gives(1, "a year past the last", up, SeedChains::start);
        SeedChains down = withDates(5, 1, years(0, 9), years(20, 30));
        down.before(0, 1, 0, 11);
        B.gives(0, "just up to the other's last year", down, SeedChains::start);
        B.gives(9, "the other's last year", down, y -> y.at(0, NONE, 0));
        down.before(0, 1, 0, 10);
        B.gives(1, "a year past the other's last", down, SeedChains::start);
        longestWays();
    }

    /** Seven orders in a row, told from either end and pulling either way; then one year too long. */
    private static void longestWays() {
        for (int way = 0; way < 4; way++) {
            boolean pulled = way >= 2;
            SeedChains x = new SeedChains(1, 1);
            for (int i = 0; i < 8; i++) {
                x.date(pulled && i == 7 ? 63 : 0, 63);
            }
            for (int i = 0; i < 7; i++) {
                int a = way % 2 == 0 ? i : 6 - i;
                x.before(a, a + 1, pulled ? 0 : 9, 9);
            }
            B.gives(0, "a row of orders, way " + way, x, SeedChains::start);
            for (int i = 0; i < 8; i++) {
                int date = i;
                B.gives(9 * date, "way " + way + ", date " + date, x, y -> y.at(0, NONE, date));
            }
            x.before(0, 7, 63, 63);
            B.gives(0, "the same once more, way " + way, x, SeedChains::start);
            x.before(0, 7, 0, 62);
            B.gives(1, "a year too long, way " + way, x, SeedChains::start);
        }
        SeedChains round = withDates(1, 1, years(0, 63), years(0, 63), years(0, 63));
        round.before(0, 1, 0, 3);
        round.before(1, 2, 0, 3);
        round.before(2, 0, 0, 3);
        B.gives(0, "a round of orders that stands still", round, SeedChains::start);
        round.before(2, 0, 1, 3);
        B.gives(1, "a round of orders that would rise for ever", round, SeedChains::start);
    }

    private static void lowToHigh() {
        B.sentence("the years that it may have, from LOW to HIGH (between first and last, all orders holding with the years that the other dates have now)");
        SeedChains x = withDates(19, 1, years(0, 63), years(5, 60));
        x.before(0, 1, 4, 9);
        x.start();
        x.run(60);
        Draws draws = new Draws(19);
        int a = 0;
        int b = 5;
        for (int row = 0; row < 60; row++) {
            int r = row;
            a = between(draws, Math.max(0, b - 9), Math.min(63, b - 4));
            b = between(draws, Math.max(5, a + 4), Math.min(60, a + 9));
            int dueA = a;
            int dueB = b;
            B.gives(dueA, "row " + r + " of date 0", x, y -> y.at(0, r, 0));
            B.gives(dueB, "row " + r + " of date 1", x, y -> y.at(0, r, 1));
        }
        B.sentence("A STEP of a chain goes over its dates from 0 on (a date with one year draws all the same)");
        SeedChains one = withDates(8, 2, years(9, 9), years(0, 63), years(20, 20), years(0, 63));
        one.start();
        one.run(15);
        for (int chain = 0; chain < 2; chain++) {
            Draws drawn = new Draws(8 + 1000003L * chain);
            for (int row = 0; row < 15; row++) {
                int c = chain;
                int r = row;
                int[] due = {9 + drawn.next(1), drawn.next(64), 20 + drawn.next(1), drawn.next(64)};
                for (int date = 0; date < 4; date++) {
                    int d = date;
                    B.gives(due[d], "at(" + c + ", " + r + ", " + d + ")", one, y -> y.at(c, r, d));
                }
            }
        }
    }

    private static int between(Draws draws, int low, int high) {
        return low + draws.next(high - low + 1);
    }

    private static void moreThanR() {
        B.sentence("it is the first year such that the weights from low to it are more than r together");
        SeedChains x = withDates(77, 2, years(100, 102));
        x.weight(0, 100, 2);
        x.weight(0, 101, 1);
        x.weight(0, 102, 3);
        x.start();
        x.run(60);
        boolean[] seen = new boolean[6];
        for (int chain = 0; chain < 2; chain++) {
            Draws draws = new Draws(77 + 1000003L * chain);
            for (int row = 0; row < 60; row++) {
                int c = chain;
                int r = row;
                int rest = draws.next(6);
                seen[rest] = true;
                B.gives(rest < 2 ? 100 : rest < 3 ? 101 : 102, "r is " + rest, x, y -> y.at(c, r, 0));
            }
        }
        for (int rest = 0; rest < 6; rest++) {
            B.that("r was " + rest, seen[rest]);
        }
        SeedChains heavy = withDates(3, 1, years(0, 63));
        for (int year = 0; year <= 63; year++) {
            heavy.weight(0, year, 1000);
        }
        heavy.start();
        heavy.run(60);
        Draws draws = new Draws(3);
        for (int row = 0; row < 60; row++) {
            int r = row;
            int year = draws.next(64000) / 1000;
            B.gives(year, "the greatest sum of weights", heavy, y -> y.at(0, r, 0));
        }
    }

    private static void keptBehindTheBurnIn() {
        B.sentence("Steps are counted from the start, from 1 on");
        SeedChains x = Recipe.WITHOUT_ROWS.make();
        B.gives(0, "count(4)", x, y -> y.count(4));
        x.run(1);
        B.gives(1, "count(4) behind a step", x, y -> y.count(4));
        x.start();
        B.gives(0, "count(4) behind a start", x, y -> y.count(4));
        B.sentence("a step with a number n greater than the BURN-IN (0 .. 100; 0 at first), of which n - burn-in is a multiple of THIN (1 .. 20; 1 at first)");
        SeedChains first = withDates(1, 1, years(0, 63));
        first.start();
        B.gives(1, "step 1 without a burn-in", first, y -> y.run(1));
        int[][] pairs = {{0, 1}, {0, 2}, {0, 20}, {1, 1}, {5, 3}, {20, 5}, {40, 20}, {100, 1}, {100, 20}};
        for (int[] pair : pairs) {
            SeedChains kept = withDates(2, 1, years(0, 63));
            kept.burn(pair[0]);
            kept.thin(pair[1]);
            kept.start();
            String what = "burn-in " + pair[0] + ", thin " + pair[1] + ": step ";
            Draws draws = new Draws(2);
            int rows = 0;
            for (int step = 1; step <= 140 && rows < 60; step++) {
                int year = draws.next(64);
                boolean keeps = step >= pair[0] + pair[1] && (step - pair[0]) % pair[1] == 0;
                rows += keeps ? 1 : 0;
                int r = rows;
                B.gives(r, what + step, kept, y -> y.run(1));
                if (keeps) {
                    B.gives(year, what + step + ", its row", kept, y -> y.at(0, r - 1, 0));
                }
            }
        }
    }

    private static void atMost60Rows() {
        B.sentence("the chain's years are KEPT as a ROW; at most 60 of each chain");
        SeedChains x = withDates(2, 4, years(0, 63));
        x.start();
        B.gives(59, "run(59)", x, y -> y.run(59));
        B.gives(60, "run(1)", x, y -> y.run(1));
        for (int chain = 0; chain < 4; chain++) {
            int c = chain;
            Draws draws = new Draws(2 + 1000003L * c);
            for (int row = 0; row < 60; row++) {
                int r = row;
                int year = draws.next(64);
                B.gives(year, "at(" + c + ", " + r + ", 0)", x, y -> y.at(c, r, 0));
            }
        }
        B.state("a 61st row", Recipe.ALL_ROWS, y -> y.run(1));
        B.state("100 rows more", Recipe.ALL_ROWS, y -> y.run(100));
    }

    public static void main(String[] args) {
        calls();
        yearsFrom0To255();
        datesFrom0To7();
        notMoreThan63Apart();
        weightsFrom1To1000();
        weightsOfEachYear();
        atMost24Orders();
        ordersFrom0To255();
        phasesFrom0To3();
        memberOfOne();
        oneToFourChains();
        statesOf64Bits();
        leastYears();
        lowToHigh();
        moreThanR();
        keptBehindTheBurnIn();
        atMost60Rows();
        B.end();
    }
}
