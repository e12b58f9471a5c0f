/** How an object is made anew, as often as one is needed; the first and last years of its dates. */
record Recipe(String name, int[][] years, Maker maker) {
    interface Maker {
        SeedChains make();
    }

    private static final int[][] NO_DATES = {};
    private static final int[][] THREE_DATES = {{10, 14}, {12, 18}, {0, 2}};
    private static final int[][] EIGHT_DATES = {
        {0, 1}, {10, 11}, {20, 21}, {30, 31}, {40, 41}, {50, 51}, {60, 61}, {70, 71}};
    private static final int[][] ONE_DATE = {{30, 37}};
    private static final int[][] TWO_DATES = {{5, 9}, {5, 9}};

    static final Recipe NEW = new Recipe("a new object", NO_DATES, () -> new SeedChains(4, 2));
    static final Recipe NOT_STARTED = new Recipe("not started", THREE_DATES, () -> site(21));
    static final Recipe READY = new Recipe("started, run and saved", THREE_DATES, Recipe::ready);
    static final Recipe WITHOUT_ROWS = new Recipe("started, without rows", THREE_DATES, Recipe::withoutRows);
    static final Recipe NO_YEARS = new Recipe("start found no years", TWO_DATES, Recipe::noYears);
    static final Recipe ALL_DATES = new Recipe("eight dates", EIGHT_DATES, Recipe::allDates);
    static final Recipe ALL_ORDERS = new Recipe("24 orders", TWO_DATES, Recipe::allOrders);
    static final Recipe ALL_ROWS = new Recipe("60 rows", ONE_DATE, Recipe::allRows);
    static final Recipe ALL_SAVED = new Recipe("four saved states", ONE_DATE, Recipe::allSaved);

    SeedChains make() {
        return maker.make();
    }

    private static SeedChains of(int seed, int chains, int[][] years) {
        SeedChains x = new SeedChains(seed, chains);
        for (int[] pair : years) {
            x.date(pair[0], pair[1]);
        }
        return x;
    }

    /** Two chains, weights, an order, two phases; burn-in 1, thinned by 2. */
    private static SeedChains site(int seed) {
        SeedChains x = of(seed, 2, THREE_DATES);
        x.weight(0, 10, 3);
        x.weight(1, 18, 5);
        x.weight(2, 1, 2);
        x.before(0, 1, 2, 7);
        x.member(0, 1);
        x.member(1, 1);
        x.member(2, 3);
        x.burn(1);
        x.thin(2);
        return x;
    }

    /** Four rows behind nine steps; one state is saved behind four steps, one behind eight. */
    private static SeedChains ready() {
        SeedChains x = site(21);
        x.start();
        x.run(4);
        x.save();
        x.run(4);
        x.save();
        x.run(1);
        return x;
    }

    private static SeedChains withoutRows() {
        SeedChains x = site(-8);
        x.start();
        return x;
    }

    private static SeedChains noYears() {
        SeedChains x = of(3, 2, TWO_DATES);
        x.before(0, 1, 5, 9);
        x.start();
        return x;
    }

    private static SeedChains allDates() {
        SeedChains x = of(77, 1, EIGHT_DATES);
        x.before(6, 7, 0, 10);
        x.start();
        x.run(3);
        x.save();
        x.run(1);
        return x;
    }

    private static SeedChains allOrders() {
        SeedChains x = of(6, 2, TWO_DATES);
        for (int i = 0; i < 24; i++) {
            x.before(0, 1, i == 23 ? 1 : 0, i == 0 ? 3 : 255);
        }
        x.start();
        x.run(4);
        x.save();
        x.run(2);
        return x;
    }

    private static SeedChains allRows() {
        SeedChains x = of(15, 2, ONE_DATE);
        x.start();
        x.run(10);
        x.save();
        x.run(50);
        return x;
    }

    private static SeedChains allSaved() {
        SeedChains x = of(-1, 2, ONE_DATE);
        x.weight(0, 33, 4);
        x.start();
        for (int i = 0; i < 4; i++) {
            x.run(i + 1);
            x.save();
        }
        x.run(3);
        return x;
    }
}
