import java.math.BigInteger;
import java.util.ArrayList;
import java.util.List;
import java.util.NoSuchElementException;

/** The document once more, by the slowest and plainest means, to compare the class with. */
final class Model {
    private static final BigInteger TWO_TO_64 = BigInteger.ONE.shiftLeft(64);
    private static final BigInteger TIMES = new BigInteger("6364136223846793005");
    private static final BigInteger PLUS = new BigInteger("1442695040888963407");

    private static final class Date {
        int first;
        int last;
        int phase = -1;
        int[] weights = new int[256];
    }

    private static final class Chain {
        int[] years;
        BigInteger state;
        List<int[]> rows = new ArrayList<>();

        Chain copy() {
            Chain c = new Chain();
            c.years = years.clone();
            c.state = state;
            c.rows = new ArrayList<>(rows);
            return c;
        }
    }

    private static final class Started {
        List<Chain> chains = new ArrayList<>();
        int steps = 0;

        Started copy() {
            Started s = new Started();
            for (Chain c : chains) {
                s.chains.add(c.copy());
            }
            s.steps = steps;
            return s;
        }

        int rows() {
            return chains.get(0).rows.size();
        }
    }

    private final int seed;
    private final int chains;
    private final List<Date> dates = new ArrayList<>();
    private final List<int[]> orders = new ArrayList<>();
    private final List<Started> saved = new ArrayList<>();
    private Started now = null;
    private int burn = 0;
    private int thin = 1;

    Model(int seed, int chains) {
        this.seed = seed;
        this.chains = chains < 1 ? 1 : chains > 4 ? 4 : chains;
    }

    private static void element(boolean there) {
        if (!there) {
            throw new NoSuchElementException();
        }
    }

    private static void argument(boolean right) {
        if (!right) {
            throw new IllegalArgumentException();
        }
    }

    private static void state(boolean right) {
        if (!right) {
            throw new IllegalStateException();
        }
    }

    private static boolean in(long value, long least, long greatest) {
        return value >= least && value <= greatest;
    }

    private boolean isDate(int date) {
        return in(date, 0, dates.size() - 1);
    }

    private boolean isYearOf(int date, int year) {
        return isDate(date) && in(year, dates.get(date).first, dates.get(date).last);
    }

    int date(int first, int last) {
        argument(in(first, 0, 255) && in(last, 0, 255) && in((long) last - first, 0, 63));
        state(dates.size() < 8);
        Date d = new Date();
        d.first = first;
        d.last = last;
        for (int year = first; year <= last; year++) {
            d.weights[year] = 1;
        }
        dates.add(d);
        now = null;
        saved.clear();
        return dates.size() - 1;
    }

    int weight(int date, int year, int w) {
        element(isYearOf(date, year));
        argument(in(w, 1, 1000));
        int was = dates.get(date).weights[year];
        dates.get(date).weights[year] = w;
        now = null;
        saved.clear();
        return was;
    }

    int before(int a, int b, int least, int most) {
        element(isDate(a) && isDate(b));
        argument(a != b && in(least, 0, 255) && in(most, 0, 255) && least <= most);
        state(orders.size() < 24);
        orders.add(new int[] {a, b, least, most});
        now = null;
        saved.clear();
        return orders.size() - 1;
    }

    int member(int date, int phase) {
        element(isDate(date) && in(phase, -1, 3));
        int was = dates.get(date).phase;
        dates.get(date).phase = phase;
        return was;
    }

    int burn(int steps) {
        argument(in(steps, 0, 100));
        int was = burn;
        burn = steps;
        return was;
    }

    int thin(int every) {
        argument(in(every, 1, 20));
        int was = thin;
        thin = every;
        return was;
    }

    /**
     * Longest ways between all pairs of dates and a beginning (the last node), so another way than
     * that of the class; null if there are no such years.
     */
    private int[] leastYears() {
        int n = dates.size();
        long none = -1_000_000;
        long[][] way = new long[n + 1][n + 1];
        for (int i = 0; i <= n; i++) {
            for (int j = 0; j <= n; j++) {
                way[i][j] = i == j ? 0 : none;
            }
        }
        for (int d = 0; d < n; d++) {
            way[n][d] = Math.max(way[n][d], dates.get(d).first);
            way[d][n] = Math.max(way[d][n], -dates.get(d).last);
        }
        for (int[] o : orders) {
            way[o[0]][o[1]] = Math.max(way[o[0]][o[1]], o[2]);
            way[o[1]][o[0]] = Math.max(way[o[1]][o[0]], -o[3]);
        }
        for (int k = 0; k <= n; k++) {
            for (int i = 0; i <= n; i++) {
                for (int j = 0; j <= n; j++) {
                    way[i][j] = Math.max(way[i][j], Math.max(none, way[i][k] + way[k][j]));
                }
            }
        }
        int[] years = new int[n];
        for (int d = 0; d <= n; d++) {
            if (way[d][d] > 0) {
                return null;
            }
            if (d < n) {
                years[d] = (int) way[n][d];
            }
        }
        return years;
    }

    int start() {
        int[] years = leastYears();
        now = null;
        if (years == null) {
            return 1;
        }
        now = new Started();
        for (int c = 0; c < chains; c++) {
            Chain chain = new Chain();
            chain.years = years.clone();
            chain.state = BigInteger.valueOf(seed + 1000003L * c).mod(TWO_TO_64);
            now.chains.add(chain);
        }
        return 0;
    }

    private boolean allHold(int[] years) {
        for (int[] o : orders) {
            if (!in(years[o[1]] - years[o[0]], o[2], o[3])) {
                return false;
            }
        }
        return true;
    }

    private void step(Chain chain) {
        for (int d = 0; d < dates.size(); d++) {
            List<Integer> row = new ArrayList<>();
            for (int year = dates.get(d).first; year <= dates.get(d).last; year++) {
                chain.years[d] = year;
                if (allHold(chain.years)) {
                    for (int w = 0; w < dates.get(d).weights[year]; w++) {
                        row.add(year);
                    }
                }
            }
            chain.state = TIMES.multiply(chain.state).add(PLUS).mod(TWO_TO_64);
            int r = chain.state.shiftRight(33).mod(BigInteger.valueOf(row.size())).intValue();
            chain.years[d] = row.get(r);
        }
    }

    private boolean keeps(int step) {
        return step > burn && (step - burn) % thin == 0;
    }

    int run(int steps) {
        argument(in(steps, 0, 100));
        state(now != null);
        Started then = now.copy();
        for (int i = 0; i < steps; i++) {
            then.steps++;
            for (Chain chain : then.chains) {
                step(chain);
                if (keeps(then.steps)) {
                    state(chain.rows.size() < 60);
                    chain.rows.add(chain.years.clone());
                }
            }
        }
        now = then;
        return now.rows();
    }

    int at(int chain, int row, int date) {
        element(in(chain, 0, chains - 1) && isDate(date) && row >= -1);
        state(now != null);
        element(row < now.rows());
        Chain c = now.chains.get(chain);
        return (row < 0 ? c.years : c.rows.get(row))[date];
    }

    private List<int[]> allRows() {
        List<int[]> all = new ArrayList<>();
        for (Chain c : now.chains) {
            all.addAll(c.rows);
        }
        return all;
    }

    int counted(int date, int year) {
        element(isYearOf(date, year));
        state(now != null);
        return (int) allRows().stream().filter(row -> row[date] == year).count();
    }

    int apart(int date) {
        element(isDate(date));
        state(now != null);
        List<Integer> sums = new ArrayList<>();
        for (Chain c : now.chains) {
            sums.add(c.rows.stream().mapToInt(row -> row[date]).sum());
        }
        sums.sort(null);
        return sums.get(sums.size() - 1) - sums.get(0);
    }

    int agreement(int date) {
        element(isDate(date));
        state(now != null);
        int[] weights = dates.get(date).weights;
        int greatest = 0;
        for (int w : weights) {
            greatest = Math.max(greatest, w);
        }
        long sum = allRows().stream().mapToLong(row -> weights[row[date]]).sum();
        return allRows().isEmpty() ? -1 : (int) (1000 * sum / ((long) allRows().size() * greatest));
    }

    int spans(int phase, int years) {
        element(in(phase, 0, 3));
        argument(in(years, 0, 255));
        state(now != null);
        int found = 0;
        for (int[] row : allRows()) {
            List<Integer> members = new ArrayList<>();
            for (int d = 0; d < dates.size(); d++) {
                if (dates.get(d).phase == phase) {
                    members.add(row[d]);
                }
            }
            members.sort(null);
            if (!members.isEmpty() && members.get(members.size() - 1) - members.get(0) == years) {
                found++;
            }
        }
        return found;
    }

    int save() {
        state(now != null && saved.size() < 4);
        saved.add(now.copy());
        return saved.size() - 1;
    }

    int back(int which) {
        element(in(which, 0, saved.size() - 1));
        now = saved.get(which).copy();
        return now.rows();
    }

    int count(int what) {
        element(in(what, 0, 5));
        int[] all = {dates.size(), orders.size(), chains, now == null ? 0 : now.rows(),
            now == null ? 0 : now.steps, saved.size()};
        return all[what];
    }
}
