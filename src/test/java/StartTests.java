import java.util.Random;

/** The start against a search through all choices of years of small sites. */
public final class StartTests {
    private static final int SITES = 4000;

    private final int[] first;
    private final int[] last;
    private final int[][] orders;
    private final int[] choice;
    private final int[] least;
    private boolean found = false;

    private StartTests(Random random) {
        int dates = 1 + random.nextInt(4);
        first = new int[dates];
        last = new int[dates];
        choice = new int[dates];
        least = new int[dates];
        for (int d = 0; d < dates; d++) {
            first[d] = random.nextInt(8);
            last[d] = first[d] + random.nextInt(7);
            least[d] = Integer.MAX_VALUE;
        }
        orders = new int[dates == 1 ? 0 : random.nextInt(6)][];
        for (int o = 0; o < orders.length; o++) {
            int a = random.nextInt(dates);
            int b = (a + 1 + random.nextInt(dates - 1)) % dates;
            int atLeast = random.nextInt(5);
            orders[o] = new int[] {a, b, atLeast, atLeast + random.nextInt(7)};
        }
    }

    private void search(int date) {
        if (date == choice.length) {
            for (int[] o : orders) {
                int behind = choice[o[1]] - choice[o[0]];
                if (behind < o[2] || behind > o[3]) {
                    return;
                }
            }
            found = true;
            for (int d = 0; d < choice.length; d++) {
                least[d] = Math.min(least[d], choice[d]);
            }
            return;
        }
        for (int year = first[date]; year <= last[date]; year++) {
            choice[date] = year;
            search(date + 1);
        }
    }

    private boolean compare(Check check, int site) {
        search(0);
        SeedChains x = new SeedChains(site, 2);
        for (int d = 0; d < first.length; d++) {
            x.date(first[d], last[d]);
        }
        for (int[] o : orders) {
            x.before(o[0], o[1], o[2], o[3]);
        }
        check.due("site " + site + ": start()", found ? 0 : 1, x::start);
        for (int d = 0; d < first.length; d++) {
            int date = d;
            check.due("site " + site + ": year of " + d, found ? least[d] : Check.STATE, () -> x.at(1, -1, date));
        }
        return found;
    }

    public static void main(String[] args) {
        Check check = new Check();
        Random random = new Random(8);
        int withYears = 0;
        for (int site = 0; site < SITES; site++) {
            withYears += new StartTests(random).compare(check, site) ? 1 : 0;
        }
        check.that("many sites with years and many without", withYears > SITES / 5 && withYears < SITES * 4 / 5);
        check.end("StartTests");
    }
}
