/** Each promise of the document by itself: ordinary inputs, the edges it names, wrong inputs. */
public final class PromiseTests {
    private static final int NONE = SeedChains.NONE;
    private static final int[] FAR = {Integer.MIN_VALUE, Integer.MAX_VALUE};
    private static final Check CHECK = new Check();

    private static void due(String what, int want, Check.Call call) {
        CHECK.due(what, want, call);
    }

    private static void noElement(String what, Check.Call call) {
        CHECK.due(what, Check.NO_ELEMENT, call);
    }

    private static void argument(String what, Check.Call call) {
        CHECK.due(what, Check.ARGUMENT, call);
    }

    private static void state(String what, Check.Call call) {
        CHECK.due(what, Check.STATE, call);
    }

    /** The document's draw, written out once more. */
    private static long next(long state) {
        return 6364136223846793005L * state + 1442695040888963407L;
    }

    /** Dates 10 .. 20 and 15 .. 40, the second one 3 to 9 years behind; started, run, saved once. */
    private static SeedChains ready() {
        SeedChains x = new SeedChains(5, 2);
        x.date(10, 20);
        x.date(15, 40);
        x.before(0, 1, 3, 9);
        x.start();
        x.run(7);
        x.save();
        return x;
    }

    private static void stillReady(String what, SeedChains x) {
        due(what + ": dates", 2, () -> x.count(0));
        due(what + ": orders", 1, () -> x.count(1));
        due(what + ": rows", 7, () -> x.count(3));
        due(what + ": steps", 7, () -> x.count(4));
        due(what + ": saved", 1, () -> x.count(5));
        SeedChains fresh = ready();
        for (int chain = 0; chain < 2; chain++) {
            for (int row = NONE; row < 7; row++) {
                int c = chain;
                int r = row;
                due(what + ": year", fresh.at(c, r, 0), () -> x.at(c, r, 0));
                due(what + ": year", fresh.at(c, r, 1), () -> x.at(c, r, 1));
            }
        }
    }

    private static void gone(String what, SeedChains x) {
        state(what + ": run", () -> x.run(0));
        state(what + ": save", x::save);
        noElement(what + ": back", () -> x.back(0));
        due(what + ": rows", 0, () -> x.count(3));
        due(what + ": steps", 0, () -> x.count(4));
        due(what + ": saved", 0, () -> x.count(5));
    }

    private static void promise1() {
        SeedChains x = new SeedChains(1, 2);
        for (int what = 0; what <= 5; what++) {
            int w = what;
            due("new: count", w == 2 ? 2 : 0, () -> x.count(w));
        }
        gone("new", x);
        due("new: burn-in", 0, () -> x.burn(0));
        due("new: thin", 1, () -> x.thin(1));
        int[][] chains = {{Integer.MIN_VALUE, 1}, {-1, 1}, {0, 1}, {1, 1}, {3, 3}, {4, 4}, {5, 4}, {Integer.MAX_VALUE, 4}};
        for (int[] pair : chains) {
            due("chains of " + pair[0], pair[1], () -> new SeedChains(9, pair[0]).count(2));
        }
    }

    private static void promise2() {
        SeedChains x = new SeedChains(1, 1);
        argument("date(-1, 5)", () -> x.date(-1, 5));
        argument("date(-5, -1)", () -> x.date(-5, -1));
        argument("date(250, 256)", () -> x.date(250, 256));
        argument("date(9, 8)", () -> x.date(9, 8));
        argument("date(100, 164)", () -> x.date(100, 164));
        for (int far : FAR) {
            argument("date, first far", () -> x.date(far, 5));
            argument("date, last far", () -> x.date(5, far));
            argument("date, both far", () -> x.date(far, far));
        }
        due("no date yet", 0, () -> x.count(0));
        due("date(0, 0)", 0, () -> x.date(0, 0));
        due("date(192, 255)", 1, () -> x.date(192, 255));
        due("date(0, 63)", 2, () -> x.date(0, 63));
        for (int i = 3; i < 8; i++) {
            int n = i;
            due("date of many", n, () -> x.date(n, n + 1));
        }
        state("a ninth date", () -> x.date(1, 2));
        argument("a ninth date that is wrong", () -> x.date(2, 1));
        due("eight dates", 8, () -> x.count(0));

        SeedChains y = ready();
        argument("date, wrong", () -> y.date(3, 2));
        stillReady("a wrong date", y);
        due("date", 2, () -> y.date(3, 4));
        gone("behind a date", y);
        SeedChains z = new SeedChains(1, 1);
        for (int i = 0; i < 8; i++) {
            z.date(i, i);
        }
        z.start();
        z.run(4);
        z.save();
        state("a ninth date", () -> z.date(1, 1));
        due("a refused date leaves rows", 4, () -> z.count(3));
        due("a refused date leaves saved states", 1, () -> z.count(5));
    }

    private static void promise3() {
        SeedChains x = ready();
        noElement("weight, date -1", () -> x.weight(-1, 10, 1));
        noElement("weight, date 2", () -> x.weight(2, 10, 1));
        noElement("weight, year 9", () -> x.weight(0, 9, 1));
        noElement("weight, year 21", () -> x.weight(0, 21, 1));
        noElement("weight, no year and no weight", () -> x.weight(0, 21, 0));
        argument("weight 0", () -> x.weight(0, 10, 0));
        argument("weight -1", () -> x.weight(0, 10, -1));
        argument("weight 1001", () -> x.weight(0, 20, 1001));
        for (int far : FAR) {
            noElement("weight, date far", () -> x.weight(far, 10, 1));
            noElement("weight, year far", () -> x.weight(0, far, 1));
            argument("weight far", () -> x.weight(0, 10, far));
        }
        stillReady("wrong weights", x);
        due("weight at first", 1, () -> x.weight(0, 10, 1));
        gone("behind the same weight", x);
        due("weight 1000", 1, () -> x.weight(0, 20, 1000));
        due("weight back to 1", 1000, () -> x.weight(0, 20, 1));
        due("weight of another date", 1, () -> x.weight(1, 20, 7));
        due("weight of a date", 1, () -> x.weight(0, 20, 3));
        due("weight, once more", 7, () -> x.weight(1, 20, 8));

        SeedChains y = new SeedChains(77, 1);
        y.date(100, 102);
        y.weight(0, 100, 2);
        y.weight(0, 101, 5);
        y.weight(0, 102, 3);
        y.start();
        y.run(50);
        long draws = 77;
        for (int i = 0; i < 50; i++) {
            draws = next(draws);
            int r = (int) ((draws >>> 33) % 10);
            int row = i;
            due("a year by weights", r < 2 ? 100 : r < 7 ? 101 : 102, () -> y.at(0, row, 0));
        }
    }

    private static void promise4() {
        SeedChains x = ready();
        noElement("before, a -1", () -> x.before(-1, 0, 0, 1));
        noElement("before, a 2", () -> x.before(2, 0, 0, 1));
        noElement("before, b -1", () -> x.before(0, -1, 0, 1));
        noElement("before, b 2", () -> x.before(0, 2, 0, 1));
        noElement("before, no dates and wrong years", () -> x.before(2, 2, 5, 4));
        argument("before itself", () -> x.before(1, 1, 0, 1));
        argument("least -1", () -> x.before(0, 1, -1, 1));
        argument("most 256", () -> x.before(0, 1, 0, 256));
        argument("least and most 256", () -> x.before(0, 1, 256, 256));
        argument("least above most", () -> x.before(0, 1, 5, 4));
        for (int far : FAR) {
            noElement("before, a far", () -> x.before(far, 0, 0, 1));
            noElement("before, b far", () -> x.before(0, far, 0, 1));
            argument("least far", () -> x.before(0, 1, far, 1));
            argument("most far", () -> x.before(0, 1, 0, far));
        }
        stillReady("wrong orders", x);
        due("before", 1, () -> x.before(1, 0, 0, 255));
        gone("behind an order", x);
        for (int i = 2; i < 24; i++) {
            int n = i;
            due("before of many", n, () -> x.before(0, 1, 255, 255));
        }
        state("a 25th order", () -> x.before(0, 1, 0, 1));
        argument("a 25th order that is wrong", () -> x.before(0, 0, 0, 1));
        noElement("a 25th order of no date", () -> x.before(0, 2, 0, 1));
        due("24 orders", 24, () -> x.count(1));

        SeedChains full = new SeedChains(1, 1);
        full.date(0, 1);
        full.date(0, 1);
        for (int i = 0; i < 24; i++) {
            full.before(0, 1, 0, 1);
        }
        full.start();
        full.run(3);
        full.save();
        state("a 25th order", () -> full.before(0, 1, 0, 1));
        due("a refused order leaves rows", 3, () -> full.count(3));
        due("a refused order leaves saved states", 1, () -> full.count(5));
        ordersHold();
        exactBounds();
    }

    private static void ordersHold() {
        SeedChains y = new SeedChains(-3, 4);
        y.date(0, 60);
        y.date(0, 60);
        y.date(20, 40);
        y.before(0, 1, 4, 6);
        y.before(2, 1, 0, 20);
        y.start();
        y.run(40);
        boolean[] seen = new boolean[7];
        for (int chain = 0; chain < 4; chain++) {
            for (int row = 0; row < 40; row++) {
                int year = y.at(chain, row, 1);
                int behind = year - y.at(chain, row, 0);
                int other = year - y.at(chain, row, 2);
                CHECK.that("orders hold in rows", behind >= 4 && behind <= 6 && other >= 0 && other <= 20);
                seen[Math.max(0, Math.min(6, behind))] = true;
            }
        }
        CHECK.that("least and most are both met", seen[4] && seen[6]);
    }

    /** Each date's low and high year by an order, at both of its ends, within wide first and last. */
    private static void exactBounds() {
        SeedChains x = new SeedChains(19, 1);
        x.date(0, 63);
        x.date(0, 63);
        x.before(0, 1, 4, 9);
        x.start();
        x.run(60);
        int a = 0;
        int b = 4;
        long state = 19;
        for (int i = 0; i < 60; i++) {
            int row = i;
            state = next(state);
            a = drawn(Math.max(0, b - 9), Math.min(63, b - 4), state);
            due("a year before another", a, () -> x.at(0, row, 0));
            state = next(state);
            b = drawn(Math.max(0, a + 4), Math.min(63, a + 9), state);
            due("a year behind another", b, () -> x.at(0, row, 1));
        }
    }

    private static int drawn(int low, int high, long state) {
        return low + (int) ((state >>> 33) % (high - low + 1));
    }

    private static void promise5() {
        SeedChains x = ready();
        noElement("member, date -1", () -> x.member(-1, 0));
        noElement("member, date 2", () -> x.member(2, 0));
        noElement("member, phase -2", () -> x.member(0, -2));
        noElement("member, phase 4", () -> x.member(0, 4));
        for (int far : FAR) {
            noElement("member, date far", () -> x.member(far, 0));
            noElement("member, phase far", () -> x.member(0, far));
        }
        due("member of none at first", NONE, () -> x.member(0, 3));
        due("member of 3", 3, () -> x.member(0, 0));
        due("the other date", NONE, () -> x.member(1, NONE));
        due("member of 0", 0, () -> x.member(0, NONE));
        due("member of none again", NONE, () -> x.member(0, 1));
        noElement("member, wrong", () -> x.member(0, 4));
        due("a wrong member changes nothing", 1, () -> x.member(0, 1));
        stillReady("members", x);
    }

    private static void promise6() {
        SeedChains x = ready();
        argument("burn(-1)", () -> x.burn(-1));
        argument("burn(101)", () -> x.burn(101));
        for (int far : FAR) {
            argument("burn far", () -> x.burn(far));
        }
        due("burn(100)", 0, () -> x.burn(100));
        due("burn(0)", 100, () -> x.burn(0));
        due("burn(9)", 0, () -> x.burn(9));
        stillReady("burn-in", x);
        due("steps 8, 9 are burnt", 7, () -> x.run(2));
        due("step 10 is kept", 8, () -> x.run(1));
        argument("burn, wrong", () -> x.burn(101));
        due("a wrong burn-in changes nothing", 9, () -> x.burn(100));
        due("steps 11 .. 100 are burnt", 8, () -> x.run(90));
        due("step 101 is kept", 9, () -> x.run(1));
        x.start();
        due("the burn-in stays behind a start", 0, () -> x.run(100));
        due("from the start on", 1, () -> x.run(1));
    }

    private static void promise7() {
        SeedChains x = ready();
        argument("thin(0)", () -> x.thin(0));
        argument("thin(-1)", () -> x.thin(-1));
        argument("thin(21)", () -> x.thin(21));
        for (int far : FAR) {
            argument("thin far", () -> x.thin(far));
        }
        due("thin(20)", 1, () -> x.thin(20));
        due("thin(5)", 20, () -> x.thin(5));
        stillReady("thin", x);
        due("steps 8, 9", 7, () -> x.run(2));
        due("step 10", 8, () -> x.run(1));
        x.burn(3);
        due("steps 11, 12", 8, () -> x.run(2));
        due("step 13 is ten behind the burn-in", 9, () -> x.run(1));
        argument("thin, wrong", () -> x.thin(0));
        due("a wrong thin changes nothing", 5, () -> x.thin(2));
        SeedChains all = new SeedChains(5, 2);
        all.date(10, 20);
        all.date(15, 40);
        all.before(0, 1, 3, 9);
        all.start();
        all.run(13);
        due("the row is step 10's", all.at(1, 9, 1), () -> x.at(1, 7, 1));
        due("the row is step 13's", all.at(1, 12, 1), () -> x.at(1, 8, 1));
    }

    private static void promise8() {
        SeedChains empty = new SeedChains(1, 1);
        due("start without dates", 0, empty::start);
        due("run without dates", 5, () -> empty.run(5));
        SeedChains x = ready();
        due("start again", 0, x::start);
        due("no rows", 0, () -> x.count(3));
        due("no steps", 0, () -> x.count(4));
        due("saved states stay", 1, () -> x.count(5));
        due("least year", 10, () -> x.at(1, NONE, 0));
        due("least year under an order", 15, () -> x.at(1, NONE, 1));
        due("the same rows", 7, () -> x.run(7));
        stillReady("started again", x);
        due("back behind a start", 7, () -> x.back(0));
        leastYears();
        noYears();
    }

    private static void leastYears() {
        SeedChains x = new SeedChains(1, 4);
        x.date(0, 60);
        x.date(0, 60);
        x.date(50, 60);
        x.date(5, 5);
        x.before(0, 1, 10, 20);
        x.before(1, 2, 0, 15);
        due("start", 0, x::start);
        int[] least = {15, 35, 50, 5};
        for (int date = 0; date < 4; date++) {
            int d = date;
            due("least year of " + d, least[d], () -> x.at(3, NONE, d));
        }
        // A row of orders told from its end: each round of raising settles one date alone.
        SeedChains row = new SeedChains(1, 1);
        for (int i = 0; i < 8; i++) {
            row.date(0, 63);
        }
        for (int i = 6; i >= 0; i--) {
            row.before(i, i + 1, 9, 9);
        }
        due("start of a row", 0, row::start);
        due("end of a row", 63, () -> row.at(0, NONE, 7));
        SeedChains pulled = new SeedChains(1, 1);
        for (int i = 0; i < 7; i++) {
            pulled.date(0, 63);
        }
        pulled.date(63, 63);
        for (int i = 0; i < 7; i++) {
            pulled.before(i, i + 1, 0, 5);
        }
        due("start of a row that is pulled up from its end", 0, pulled::start);
        for (int i = 0; i < 8; i++) {
            int date = i;
            due("pulled up", 63 - 5 * (7 - date), () -> pulled.at(0, NONE, date));
        }
        row.before(0, 7, 0, 62);
        due("a row that is a year too long", 1, row::start);
    }

    private static void noYears() {
        SeedChains round = new SeedChains(1, 2);
        round.date(0, 63);
        round.date(0, 63);
        round.before(0, 1, 0, 5);
        due("start", 0, round::start);
        round.before(1, 0, 0, 5);
        due("a round of orders that holds", 0, round::start);
        round.before(1, 0, 1, 5);
        due("a round of orders that rises", 1, round::start);
        gone("behind a start that failed", round);
        state("at", () -> round.at(0, NONE, 0));
        due("fails again", 1, round::start);

        SeedChains tight = new SeedChains(1, 2);
        tight.date(10, 20);
        tight.date(0, 30);
        tight.before(0, 1, 20, 255);
        due("just within", 0, tight::start);
        due("just within", 30, () -> tight.at(0, NONE, 1));
        tight.before(0, 1, 21, 255);
        due("a year past the last", 1, tight::start);

        SeedChains pulled = new SeedChains(1, 2);
        pulled.date(0, 9);
        pulled.date(20, 30);
        pulled.before(0, 1, 0, 11);
        due("pulled up by the most years", 0, pulled::start);
        due("pulled up", 9, () -> pulled.at(1, NONE, 0));
        pulled.before(0, 1, 0, 10);
        due("pulled up too far", 1, pulled::start);
    }

    private static void promise9() {
        SeedChains unstarted = new SeedChains(1, 1);
        unstarted.date(0, 9);
        argument("run(-1), not started", () -> unstarted.run(-1));
        state("run(0), not started", () -> unstarted.run(0));
        SeedChains x = ready();
        argument("run(-1)", () -> x.run(-1));
        argument("run(101)", () -> x.run(101));
        for (int far : FAR) {
            argument("run far", () -> x.run(far));
        }
        state("54 rows more", () -> x.run(54));
        due("run(0)", 7, () -> x.run(0));
        stillReady("wrong runs", x);
        due("53 rows more", 60, () -> x.run(53));
        due("run(0) with 60 rows", 60, () -> x.run(0));
        state("a row more", () -> x.run(1));
        x.thin(20);
        due("19 steps without a row", 60, () -> x.run(19));
        state("step 80 has a row", () -> x.run(1));
        due("steps", 79, () -> x.count(4));

        SeedChains y = new SeedChains(2, 1);
        y.thin(2);
        y.start();
        due("run(100)", 50, () -> y.run(100));
        state("11 rows more", () -> y.run(22));
        due("10 rows more", 60, () -> y.run(21));
        draws();
    }

    /** Two free dates draw in turn from one state; each chain has its own. */
    private static void draws() {
        int[] seeds = {0, 42, -7, Integer.MAX_VALUE, Integer.MIN_VALUE};
        for (int seed : seeds) {
            SeedChains x = new SeedChains(seed, 4);
            x.date(100, 163);
            x.date(7, 13);
            x.start();
            x.run(20);
            for (int chain = 0; chain < 4; chain++) {
                long state = seed + 1000003L * chain;
                for (int row = 0; row < 20; row++) {
                    int c = chain;
                    int r = row;
                    state = next(state);
                    due("first date's draw", 100 + (int) ((state >>> 33) % 64), () -> x.at(c, r, 0));
                    state = next(state);
                    due("second date's draw", 7 + (int) ((state >>> 33) % 7), () -> x.at(c, r, 1));
                }
            }
        }
    }

    private static void promise10() {
        SeedChains x = ready();
        noElement("at, chain -1", () -> x.at(-1, 0, 0));
        noElement("at, chain 2", () -> x.at(2, 0, 0));
        noElement("at, date -1", () -> x.at(0, 0, -1));
        noElement("at, date 2", () -> x.at(0, 0, 2));
        noElement("at, row -2", () -> x.at(0, -2, 0));
        noElement("at, row 7", () -> x.at(0, 7, 0));
        for (int far : FAR) {
            noElement("at, chain far", () -> x.at(far, 0, 0));
            noElement("at, row far", () -> x.at(0, far, 0));
            noElement("at, date far", () -> x.at(0, 0, far));
        }
        for (int chain = 0; chain < 2; chain++) {
            int c = chain;
            due("the last row is now", x.at(c, NONE, 1), () -> x.at(c, 6, 1));
        }
        x.burn(100);
        x.run(3);
        SeedChains all = ready();
        all.run(3);
        due("now, behind steps that are not kept", all.at(1, 9, 1), () -> x.at(1, NONE, 1));
        due("an old row stays", all.at(1, 6, 1), () -> x.at(1, 6, 1));
        x.date(1, 2);
        noElement("not started, chain", () -> x.at(2, 0, 0));
        noElement("not started, date", () -> x.at(0, 0, 3));
        noElement("not started, row -2", () -> x.at(0, -2, 0));
        state("not started, row 0", () -> x.at(0, 0, 0));
        state("not started, row 99", () -> x.at(0, 99, 0));
        state("not started, now", () -> x.at(0, NONE, 0));
        x.start();
        due("started, now", 10, () -> x.at(0, NONE, 0));
        noElement("started, row 0", () -> x.at(0, 0, 0));
    }

    private static void promise11() {
        SeedChains x = ready();
        noElement("counted, date -1", () -> x.counted(-1, 10));
        noElement("counted, date 2", () -> x.counted(2, 10));
        noElement("counted, year 9", () -> x.counted(0, 9));
        noElement("counted, year 21", () -> x.counted(0, 21));
        for (int far : FAR) {
            noElement("counted, date far", () -> x.counted(far, 10));
            noElement("counted, year far", () -> x.counted(0, far));
        }
        int together = 0;
        for (int year = 15; year <= 40; year++) {
            int rows = 0;
            for (int i = 0; i < 14; i++) {
                rows += x.at(i / 7, i % 7, 1) == year ? 1 : 0;
            }
            int y = year;
            due("counted(1, " + y + ")", rows, () -> x.counted(1, y));
            together += rows;
        }
        CHECK.that("all rows are counted", together == 14);
        x.start();
        for (int year = 10; year <= 20; year++) {
            int y = year;
            due("old rows are not counted", 0, () -> x.counted(0, y));
        }
        x.date(1, 2);
        state("counted, not started", () -> x.counted(0, 10));
        noElement("counted, not started, no year", () -> x.counted(0, 9));
        noElement("counted, not started, no date", () -> x.counted(3, 9));
    }

    private static void promise12() {
        SeedChains x = new SeedChains(11, 4);
        x.date(0, 63);
        x.date(200, 200);
        noElement("apart, not started, date 2", () -> x.apart(2));
        state("apart, not started", () -> x.apart(0));
        x.start();
        due("apart without rows", 0, () -> x.apart(0));
        x.run(9);
        int least = Integer.MAX_VALUE;
        int greatest = 0;
        for (int chain = 0; chain < 4; chain++) {
            int sum = 0;
            for (int row = 0; row < 9; row++) {
                sum += x.at(chain, row, 0);
            }
            least = Math.min(least, sum);
            greatest = Math.max(greatest, sum);
        }
        int want = greatest - least;
        CHECK.that("the chains are apart", want > 0);
        due("apart", want, () -> x.apart(0));
        due("a date of one year", 0, () -> x.apart(1));
        x.start();
        due("old rows are not summed", 0, () -> x.apart(0));
        noElement("apart, date -1", () -> x.apart(-1));
        noElement("apart, date 2", () -> x.apart(2));
        for (int far : FAR) {
            noElement("apart, date far", () -> x.apart(far));
        }
        SeedChains alone = new SeedChains(11, 1);
        alone.date(0, 63);
        alone.start();
        alone.run(9);
        due("one chain", 0, () -> alone.apart(0));
    }

    private static void promise13() {
        SeedChains x = new SeedChains(3, 3);
        x.date(50, 53);
        x.weight(0, 50, 10);
        x.weight(0, 51, 7);
        x.weight(0, 52, 3);
        x.weight(0, 53, 999);
        x.date(60, 61);
        // Year 53, with the greatest weight, is out of reach; it counts all the same.
        x.before(0, 1, 8, 255);
        noElement("agreement, not started, date 2", () -> x.agreement(2));
        state("agreement, not started", () -> x.agreement(0));
        due("start", 0, x::start);
        due("agreement without rows", NONE, () -> x.agreement(0));
        x.burn(1);
        x.run(1);
        due("agreement in the burn-in", NONE, () -> x.agreement(0));
        x.run(11);
        long sum = 0;
        for (int i = 0; i < 33; i++) {
            int year = x.at(i / 11, i % 11, 0);
            sum += year == 50 ? 10 : year == 51 ? 7 : year == 52 ? 3 : 999;
        }
        int want = (int) (1000 * sum / (33 * 999));
        due("agreement", want, () -> x.agreement(0));
        due("agreement of one weight", 1000, () -> x.agreement(1));
        noElement("agreement, date -1", () -> x.agreement(-1));
        noElement("agreement, date 2", () -> x.agreement(2));
        for (int far : FAR) {
            noElement("agreement, date far", () -> x.agreement(far));
        }
        SeedChains most = new SeedChains(3, 4);
        most.date(9, 9);
        most.weight(0, 9, 1000);
        most.start();
        most.run(60);
        due("the greatest sum", 1000, () -> most.agreement(0));
    }

    private static void promise14() {
        SeedChains x = ready();
        noElement("spans, phase -1", () -> x.spans(NONE, 0));
        noElement("spans, phase 4", () -> x.spans(4, 0));
        noElement("spans, phase and years", () -> x.spans(4, 256));
        argument("spans, years -1", () -> x.spans(0, -1));
        argument("spans, years 256", () -> x.spans(3, 256));
        for (int far : FAR) {
            noElement("spans, phase far", () -> x.spans(far, 0));
            argument("spans, years far", () -> x.spans(0, far));
        }
        due("spans without members", 0, () -> x.spans(0, 0));
        due("spans without members, 255", 0, () -> x.spans(0, 255));
        x.member(1, 2);
        due("one member", 14, () -> x.spans(2, 0));
        due("one member", 0, () -> x.spans(2, 1));
        x.member(0, 2);
        for (int years = 0; years <= 10; years++) {
            int rows = 0;
            for (int i = 0; i < 14; i++) {
                rows += x.at(i / 7, i % 7, 1) - x.at(i / 7, i % 7, 0) == years ? 1 : 0;
            }
            int y = years;
            due("spans(2, " + y + ")", rows, () -> x.spans(2, y));
        }
        due("another phase", 0, () -> x.spans(0, 0));
        x.member(0, NONE);
        due("one member is left", 14, () -> x.spans(2, 0));
        x.date(1, 2);
        state("spans, not started", () -> x.spans(2, 0));
        argument("spans, not started, years", () -> x.spans(2, 256));
        noElement("spans, not started, phase", () -> x.spans(4, 256));
        threeMembers();
    }

    private static void threeMembers() {
        SeedChains x = new SeedChains(1, 3);
        x.date(100, 100);
        x.date(0, 0);
        x.date(255, 255);
        x.date(7, 7);
        for (int date = 0; date < 3; date++) {
            x.member(date, 3);
        }
        x.start();
        due("spans without rows", 0, () -> x.spans(3, 255));
        x.run(2);
        due("from the first to the last, whatever their numbers", 6, () -> x.spans(3, 255));
        due("not between neighbours", 0, () -> x.spans(3, 100));
        x.member(2, 1);
        due("the last year alone", 6, () -> x.spans(1, 0));
    }

    private static void promise15() {
        SeedChains fresh = new SeedChains(1, 1);
        state("save, not started", fresh::save);
        SeedChains x = ready();
        due("save", 1, x::save);
        due("save", 2, x::save);
        due("save", 3, x::save);
        state("a fifth", x::save);
        due("four are saved", 4, () -> x.count(5));
        due("rows stay", 7, () -> x.count(3));
        x.start();
        state("a fifth behind a start", x::save);
        x.weight(0, 10, 5);
        state("save, no longer started", x::save);
        x.start();
        due("saved states begin anew", 0, x::save);
        due("without rows", 0, () -> x.back(0));
    }

    private static void promise16() {
        SeedChains x = ready();
        noElement("back(-1)", () -> x.back(-1));
        noElement("back(1)", () -> x.back(1));
        for (int far : FAR) {
            noElement("back far", () -> x.back(far));
        }
        stillReady("wrong backs", x);
        x.run(20);
        due("save", 1, x::save);
        x.burn(4);
        x.thin(2);
        x.member(0, 3);
        due("back(0)", 7, () -> x.back(0));
        stillBut(x, 7);
        due("the burn-in is not saved", 4, () -> x.burn(0));
        due("thin is not saved", 2, () -> x.thin(1));
        due("members are not saved", 3, () -> x.member(0, NONE));
        due("the same steps again", 27, () -> x.run(20));
        stillBut(x, 27);
        due("run on", 40, () -> x.run(13));
        due("back(1)", 27, () -> x.back(1));
        stillBut(x, 27);
        due("back(0) once more", 7, () -> x.back(0));
        stillBut(x, 7);
        x.start();
        due("back behind a start", 27, () -> x.back(1));
        stillBut(x, 27);
        due("both stay", 2, () -> x.count(5));
        otherRowsBetween();
    }

    /** Other rows stand in between, so that the saved ones must truly come back. */
    private static void otherRowsBetween() {
        SeedChains x = ready();
        x.run(20);
        x.save();
        x.start();
        x.thin(3);
        x.run(60);
        x.save();
        due("back to other rows", 7, () -> x.back(0));
        stillBut(x, 7);
        due("back to more rows", 27, () -> x.back(1));
        stillBut(x, 27);
        SeedChains thinned = ready();
        thinned.start();
        thinned.thin(3);
        thinned.run(60);
        due("back to thinned rows", 20, () -> x.back(2));
        due("with all steps", 60, () -> x.count(4));
        for (int i = 0; i < 20; i++) {
            int row = i;
            due("a thinned row", thinned.at(1, row, 0), () -> x.at(1, row, 0));
        }
    }

    /** As one that ran so many steps without a save. */
    private static void stillBut(SeedChains x, int rows) {
        SeedChains y = ready();
        y.run(rows - 7);
        due("rows", rows, () -> x.count(3));
        due("steps", rows, () -> x.count(4));
        for (int chain = 0; chain < 2; chain++) {
            for (int row = NONE; row < rows; row++) {
                int c = chain;
                int r = row;
                due("year of 0", y.at(c, r, 0), () -> x.at(c, r, 0));
                due("year of 1", y.at(c, r, 1), () -> x.at(c, r, 1));
            }
        }
    }

    private static void promise17() {
        SeedChains x = ready();
        x.date(1, 2);
        x.before(0, 1, 1, 200);
        x.start();
        x.thin(3);
        x.run(10);
        x.save();
        x.save();
        int[] want = {3, 2, 2, 3, 10, 2};
        for (int what = 0; what <= 5; what++) {
            int w = what;
            due("count(" + w + ")", want[w], () -> x.count(w));
        }
        noElement("count(-1)", () -> x.count(-1));
        noElement("count(6)", () -> x.count(6));
        for (int far : FAR) {
            noElement("count far", () -> x.count(far));
        }
        x.weight(0, 10, 2);
        due("rows, not started", 0, () -> x.count(3));
        due("steps, not started", 0, () -> x.count(4));
        due("saved, not started", 0, () -> x.count(5));
    }

    public static void main(String[] args) {
        promise1();
        promise2();
        promise3();
        promise4();
        promise5();
        promise6();
        promise7();
        promise8();
        promise9();
        promise10();
        promise11();
        promise12();
        promise13();
        promise14();
        promise15();
        promise16();
        promise17();
        CHECK.end("PromiseTests");
    }
}
