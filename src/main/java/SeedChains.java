import java.util.NoSuchElementException;

/**
 * Dates of a site by seeded draws. Several chains step on by themselves from the least years that
 * hold all orders; rows of their years are kept behind a burn-in and thinned.
 */
public final class SeedChains {
    public static final int NONE = -1;

    private static final int MOST_YEAR = 255;
    private static final int MOST_APART = 63;
    private static final int MOST_WEIGHT = 1000;
    private static final int MOST_DATES = 8;
    private static final int MOST_ORDERS = 24;
    private static final int PHASES = 4;
    private static final int MOST_CHAINS = 4;
    private static final int MOST_ROWS = 60;
    private static final int MOST_SAVED = 4;
    private static final int MOST_BURN = 100;
    private static final int MOST_THIN = 20;
    private static final int MOST_STEPS = 100;
    private static final long MULTIPLIER = 6364136223846793005L;
    private static final long INCREMENT = 1442695040888963407L;
    private static final long CHAIN_SEED = 1000003L;

    private final int seed;
    private final int chains;
    private final Site site;
    private final Course now;
    private final Course[] saved;
    private int savedCount;
    private boolean started;
    private int burnIn;
    private int every;

    public SeedChains(int seed, int chains) {
        this.seed = seed;
        this.chains = Math.max(1, Math.min(MOST_CHAINS, chains));
        this.site = new Site();
        this.now = new Course(this.chains);
        // All saved states are made here and used again: no later call makes an array.
        this.saved = new Course[MOST_SAVED];
        for (int i = 0; i < MOST_SAVED; i++) {
            this.saved[i] = new Course(this.chains);
        }
        this.savedCount = 0;
        this.started = false;
        this.burnIn = 0;
        this.every = 1;
    }

    public int date(int first, int last) throws IllegalArgumentException, IllegalStateException {
        needYears(first);
        needYears(last);
        if (first > last || last - first > MOST_APART) {
            throw new IllegalArgumentException("first and last year");
        }
        if (site.dates >= MOST_DATES) {
            throw new IllegalStateException("there are eight dates");
        }
        forget();
        return site.addDate(first, last);
    }

    public int weight(int date, int year, int w) throws NoSuchElementException, IllegalArgumentException {
        needYearOf(date, year);
        if (w < 1 || w > MOST_WEIGHT) {
            throw new IllegalArgumentException("weight");
        }
        forget();
        return site.changeWeight(date, year, w);
    }

    public int before(int a, int b, int least, int most)
            throws NoSuchElementException, IllegalArgumentException, IllegalStateException {
        needDate(a);
        needDate(b);
        needYears(least);
        needYears(most);
        if (a == b || least > most) {
            throw new IllegalArgumentException("order");
        }
        if (site.orders >= MOST_ORDERS) {
            throw new IllegalStateException("there are 24 orders");
        }
        forget();
        return site.addOrder(a, b, least, most);
    }

    public int member(int date, int phase) throws NoSuchElementException {
        needDate(date);
        if (phase != NONE) {
            needPhase(phase);
        }
        int was = site.phase[date];
        site.phase[date] = phase;
        return was;
    }

    public int burn(int steps) throws IllegalArgumentException {
        if (steps < 0 || steps > MOST_BURN) {
            throw new IllegalArgumentException("burn-in");
        }
        int was = burnIn;
        burnIn = steps;
        return was;
    }

    public int thin(int every) throws IllegalArgumentException {
        if (every < 1 || every > MOST_THIN) {
            throw new IllegalArgumentException("thin");
        }
        int was = this.every;
        this.every = every;
        return was;
    }

    public int start() {
        now.kept = 0;
        now.steps = 0;
        started = true;
        for (int chain = 0; chain < chains; chain++) {
            now.states[chain] = seed + CHAIN_SEED * chain;
            started = site.findLeastYears(now.years[chain]) && started;
        }
        return started ? 0 : 1;
    }

    public int run(int steps) throws IllegalArgumentException, IllegalStateException {
        if (steps < 0 || steps > MOST_STEPS) {
            throw new IllegalArgumentException("steps");
        }
        needStarted();
        if (now.kept + rowsToCome(steps) > MOST_ROWS) {
            throw new IllegalStateException("more than 60 rows");
        }
        for (int i = 0; i < steps; i++) {
            stepAll();
        }
        return now.kept;
    }

    public int at(int chain, int row, int date) throws NoSuchElementException, IllegalStateException {
        if (chain < 0 || chain >= chains) {
            throw new NoSuchElementException("chain");
        }
        needDate(date);
        if (row < NONE) {
            throw new NoSuchElementException("row");
        }
        needStarted();
        if (row >= now.kept) {
            throw new NoSuchElementException("row");
        }
        return row == NONE ? now.years[chain][date] : now.keptYear(chain, row, date);
    }

    public int counted(int date, int year) throws NoSuchElementException, IllegalStateException {
        needYearOf(date, year);
        needStarted();
        int rows = 0;
        for (int chain = 0; chain < chains; chain++) {
            for (int row = 0; row < now.kept; row++) {
                if (now.keptYear(chain, row, date) == year) {
                    rows++;
                }
            }
        }
        return rows;
    }

    public int apart(int date) throws NoSuchElementException, IllegalStateException {
        needDate(date);
        needStarted();
        int least = sumOfYears(0, date);
        int greatest = least;
        for (int chain = 1; chain < chains; chain++) {
            int sum = sumOfYears(chain, date);
            least = Math.min(least, sum);
            greatest = Math.max(greatest, sum);
        }
        return greatest - least;
    }

    public int agreement(int date) throws NoSuchElementException, IllegalStateException {
        needDate(date);
        needStarted();
        long sum = 0;
        for (int chain = 0; chain < chains; chain++) {
            for (int row = 0; row < now.kept; row++) {
                sum += site.weightOf(date, now.keptYear(chain, row, date));
            }
        }
        long whole = (long) chains * now.kept * site.greatestWeight(date);
        return whole > 0 ? (int) (1000 * sum / whole) : NONE;
    }

    public int spans(int phase, int years)
            throws NoSuchElementException, IllegalArgumentException, IllegalStateException {
        needPhase(phase);
        needYears(years);
        needStarted();
        int rows = 0;
        for (int chain = 0; chain < chains; chain++) {
            for (int row = 0; row < now.kept; row++) {
                if (spanOf(phase, chain, row) == years) {
                    rows++;
                }
            }
        }
        return rows;
    }

    public int save() throws IllegalStateException {
        needStarted();
        if (savedCount >= MOST_SAVED) {
            throw new IllegalStateException("there are four saved states");
        }
        saved[savedCount].take(now);
        savedCount++;
        return savedCount - 1;
    }

    public int back(int saved) throws NoSuchElementException {
        if (saved < 0 || saved >= savedCount) {
            throw new NoSuchElementException("saved state");
        }
        now.take(this.saved[saved]);
        started = true;
        return now.kept;
    }

    public int count(int what) throws NoSuchElementException {
        switch (what) {
            case 0:
                return site.dates;
            case 1:
                return site.orders;
            case 2:
                return chains;
            case 3:
                return started ? now.kept : 0;
            case 4:
                return started ? now.steps : 0;
            case 5:
                return savedCount;
            default:
                throw new NoSuchElementException("count");
        }
    }

    private void needDate(int date) {
        if (date < 0 || date >= site.dates) {
            throw new NoSuchElementException("date");
        }
    }

    private void needYearOf(int date, int year) {
        needDate(date);
        if (year < site.first[date] || year > site.last[date]) {
            throw new NoSuchElementException("year");
        }
    }

    private static void needPhase(int phase) {
        if (phase < 0 || phase >= PHASES) {
            throw new NoSuchElementException("phase");
        }
    }

    /** A year and a number of years have the same bounds. */
    private static void needYears(int years) {
        if (years < 0 || years > MOST_YEAR) {
            throw new IllegalArgumentException("years");
        }
    }

    private void needStarted() {
        if (!started) {
            throw new IllegalStateException("nothing is started");
        }
    }

    /** Chains and saved states were drawn for the site as it was: they don't outlive a change of it. */
    private void forget() {
        started = false;
        savedCount = 0;
    }

    private boolean isKept(int step) {
        return step > burnIn && every > 0 && (step - burnIn) % every == 0;
    }

    private int rowsToCome(int steps) {
        int rows = 0;
        for (int i = 1; i <= steps; i++) {
            if (isKept(now.steps + i)) {
                rows++;
            }
        }
        return rows;
    }

    private void stepAll() {
        for (int chain = 0; chain < chains; chain++) {
            stepChain(chain);
        }
        now.steps++;
        if (isKept(now.steps)) {
            now.keepYears();
        }
    }

    private void stepChain(int chain) {
        int[] years = now.years[chain];
        for (int date = 0; date < site.dates; date++) {
            now.states[chain] = MULTIPLIER * now.states[chain] + INCREMENT;
            years[date] = site.drawnYear(date, years, now.states[chain] >>> 33);
        }
    }

    private int sumOfYears(int chain, int date) {
        int sum = 0;
        for (int row = 0; row < now.kept; row++) {
            sum += now.keptYear(chain, row, date);
        }
        return sum;
    }

    /** From the first to the last year of a phase's members in a row; NONE without members. */
    private int spanOf(int phase, int chain, int row) {
        int first = MOST_YEAR + 1;
        int last = NONE;
        for (int date = 0; date < site.dates; date++) {
            if (site.phase[date] == phase) {
                int year = now.keptYear(chain, row, date);
                first = Math.min(first, year);
                last = Math.max(last, year);
            }
        }
        return last == NONE ? NONE : last - first;
    }

    /** The dates with their weights and phases, and the orders among them. */
    private static final class Site {
        private final int[] first = new int[MOST_DATES];
        private final int[] last = new int[MOST_DATES];
        private final int[] phase = new int[MOST_DATES];
        private final int[][] weights = new int[MOST_DATES][MOST_APART + 1];
        private final int[] earlier = new int[MOST_ORDERS];
        private final int[] later = new int[MOST_ORDERS];
        private final int[] least = new int[MOST_ORDERS];
        private final int[] most = new int[MOST_ORDERS];
        private int dates = 0;
        private int orders = 0;

        /** The caller has seen to it that there is room and that the years are right. */
        private int addDate(int from, int to) {
            int date = dates;
            first[date] = from;
            last[date] = to;
            phase[date] = NONE;
            for (int i = 0; i <= MOST_APART; i++) {
                weights[date][i] = 1;
            }
            dates++;
            return date;
        }

        /** The caller has seen to it that there is room and that the dates are there. */
        private int addOrder(int a, int b, int atLeast, int atMost) {
            int order = orders;
            earlier[order] = a;
            later[order] = b;
            least[order] = atLeast;
            most[order] = atMost;
            orders++;
            return order;
        }

        private int weightOf(int date, int year) {
            return weights[date][year - first[date]];
        }

        private int changeWeight(int date, int year, int w) {
            int was = weightOf(date, year);
            weights[date][year - first[date]] = w;
            return was;
        }

        private int greatestWeight(int date) {
            int greatest = 0;
            for (int year = first[date]; year <= last[date]; year++) {
                greatest = Math.max(greatest, weightOf(date, year));
            }
            return greatest;
        }

        /**
         * Raises all years from their first ones until the orders hold. A year that follows from
         * orders follows from fewer of them than there are dates, so what still rises in the last
         * of these rounds would rise without end: then false.
         */
        private boolean findLeastYears(int[] years) {
            for (int date = 0; date < dates; date++) {
                years[date] = first[date];
            }
            boolean risen = true;
            for (int round = 0; round <= MOST_DATES && risen; round++) {
                risen = raiseByOrders(years);
            }
            return !risen && noneIsPastLast(years);
        }

        private boolean raiseByOrders(int[] years) {
            boolean risen = false;
            for (int order = 0; order < orders; order++) {
                int a = earlier[order];
                int b = later[order];
                if (years[b] < years[a] + least[order]) {
                    years[b] = years[a] + least[order];
                    risen = true;
                }
                if (years[a] < years[b] - most[order]) {
                    years[a] = years[b] - most[order];
                    risen = true;
                }
            }
            return risen;
        }

        private boolean noneIsPastLast(int[] years) {
            for (int date = 0; date < dates; date++) {
                if (years[date] > last[date]) {
                    return false;
                }
            }
            return true;
        }

        private int lowYear(int date, int[] years) {
            int low = first[date];
            for (int order = 0; order < orders; order++) {
                if (later[order] == date) {
                    low = Math.max(low, years[earlier[order]] + least[order]);
                } else if (earlier[order] == date) {
                    low = Math.max(low, years[later[order]] - most[order]);
                }
            }
            return low;
        }

        private int highYear(int date, int[] years) {
            int high = last[date];
            for (int order = 0; order < orders; order++) {
                if (later[order] == date) {
                    high = Math.min(high, years[earlier[order]] + most[order]);
                } else if (earlier[order] == date) {
                    high = Math.min(high, years[later[order]] - least[order]);
                }
            }
            return high;
        }

        /** The year that a date has now is always between low and high, so the sum is never 0. */
        private int drawnYear(int date, int[] years, long draw) {
            int low = lowYear(date, years);
            int high = highYear(date, years);
            long sum = 0;
            for (int year = low; year <= high; year++) {
                sum += weightOf(date, year);
            }
            if (sum <= 0) {
                return years[date];
            }
            long rest = draw % sum;
            for (int year = low; year < high; year++) {
                rest -= weightOf(date, year);
                if (rest < 0) {
                    return year;
                }
            }
            return high;
        }
    }

    /** What the chains have come to: their years, states, rows and number of steps. */
    private static final class Course {
        private final int[][] years;
        private final long[] states;
        private final int[][] rows;
        private int kept;
        private int steps;

        private Course(int chains) {
            years = new int[chains][MOST_DATES];
            states = new long[chains];
            rows = new int[chains][MOST_ROWS * MOST_DATES];
            kept = 0;
            steps = 0;
        }

        private int keptYear(int chain, int row, int date) {
            return rows[chain][row * MOST_DATES + date];
        }

        /** The caller has seen to it that there is room for a row more. */
        private void keepYears() {
            for (int chain = 0; chain < states.length; chain++) {
                System.arraycopy(years[chain], 0, rows[chain], kept * MOST_DATES, MOST_DATES);
            }
            kept++;
        }

        /** Both have the same number of chains, as the one object that made them. */
        private void take(Course from) {
            for (int chain = 0; chain < states.length; chain++) {
                System.arraycopy(from.years[chain], 0, years[chain], 0, MOST_DATES);
                System.arraycopy(from.rows[chain], 0, rows[chain], 0, from.kept * MOST_DATES);
                states[chain] = from.states[chain];
            }
            kept = from.kept;
            steps = from.steps;
        }
    }
}
