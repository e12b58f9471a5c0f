/** The boundary cases that promises 1 to 7 name: a new object, the site and the settings. */
public final class SiteBounds {
    private static final int NONE = SeedChains.NONE;
    private static final Bounds B = new Bounds("SiteBounds");

    private static void newObject() {
        B.sentence("Promise 1: Nothing is started");
        for (int seed : new int[] {0, Integer.MIN_VALUE, Integer.MAX_VALUE}) {
            SeedChains x = new SeedChains(seed, 3);
            B.gives(Check.STATE, "run(0)", x, y -> y.run(0));
            B.gives(Check.STATE, "run(100)", x, y -> y.run(100));
            B.gives(Check.STATE, "save()", x, SeedChains::save);
            B.gives(Check.STATE, "spans(0, 0)", x, y -> y.spans(0, 0));
            B.gives(Check.NO_ELEMENT, "back(0)", x, y -> y.back(0));
            for (int what = 0; what <= 5; what++) {
                int w = what;
                B.gives(w == 2 ? 3 : 0, "count(" + w + ")", x, y -> y.count(w));
            }
        }
        B.sentence("Promise 1: what a new object has: no date, no order, no burn-in, thin 1");
        SeedChains x = new SeedChains(1, 1);
        B.gives(0, "burn(7)", x, y -> y.burn(7));
        B.gives(1, "thin(7)", x, y -> y.thin(7));
        B.gives(0, "date(1, 2)", x, y -> y.date(1, 2));
        B.gives(1, "date(1, 2)", x, y -> y.date(1, 2));
        B.gives(0, "before(1, 0, 0, 0)", x, y -> y.before(1, 0, 0, 0));
        B.gives(NONE, "member(1, 0)", x, y -> y.member(1, 0));
        B.gives(0, "start()", x, SeedChains::start);
        B.gives(0, "save()", x, SeedChains::save);
        B.gives(0, "burn-in 7 and thin 7", x, y -> y.run(13));
        B.gives(1, "burn-in 7 and thin 7", x, y -> y.run(1));
        B.sentence("Promise 1: objects know nothing of one another");
        SeedChains other = new SeedChains(1, 1);
        B.gives(0, "burn-in of another", other, y -> y.burn(1));
        B.gives(1, "thin of another", other, y -> y.thin(2));
        B.gives(0, "dates of another", other, y -> y.count(0));
    }

    private static void date() {
        B.sentence("Promise 2: A date: its number");
        SeedChains x = new SeedChains(1, 1);
        for (int i = 0; i < 8; i++) {
            B.gives(i, "date(5, 5)", x, y -> y.date(5, 5));
            B.gives(i + 1, "count(0)", x, y -> y.count(0));
        }
        B.sentence("Promise 2: What was started, and all saved states, are gone");
        SeedChains ready = Recipe.READY.make();
        B.gives(3, "date(5, 5)", ready, y -> y.date(5, 5));
        B.gone("date", ready);
        SeedChains saved = Recipe.ALL_SAVED.make();
        B.gives(1, "date(5, 5)", saved, y -> y.date(5, 5));
        B.gone("date", saved);
        B.gives(0, "start()", saved, SeedChains::start);
        B.gives(Check.NO_ELEMENT, "no saved state comes back by a start", saved, y -> y.back(0));
        B.gives(0, "the first saved state", saved, SeedChains::save);
        B.sentence("Promise 2: a new date has weights 1 and no phase, and leaves the others as they were");
        SeedChains site = Recipe.NOT_STARTED.make();
        site.date(10, 14);
        B.gives(1, "weight of the new date", site, y -> y.weight(3, 10, 1));
        B.gives(3, "weight of an old date", site, y -> y.weight(0, 10, 3));
        B.gives(NONE, "phase of the new date", site, y -> y.member(3, 2));
        B.gives(1, "phase of an old date", site, y -> y.member(0, 1));
        B.gives(1, "the burn-in stays", site, y -> y.burn(1));
        B.gives(2, "thin stays", site, y -> y.thin(2));
        B.gives(1, "the order stays", site, y -> y.count(1));
        B.sentence("Promise 2: IllegalArgumentException: a year, first above last, or too far apart");
        int[][] wrong = {{-1, 3}, {3, -1}, {253, 256}, {256, 253}, {4, 3}, {255, 0}, {0, 64}, {191, 255}};
        for (int[] pair : wrong) {
            String call = "date(" + pair[0] + ", " + pair[1] + ")";
            B.argument(call, Recipe.NEW, y -> y.date(pair[0], pair[1]));
            B.argument(call, Recipe.READY, y -> y.date(pair[0], pair[1]));
            B.argument(call, Recipe.NO_YEARS, y -> y.date(pair[0], pair[1]));
        }
        B.sentence("Promise 2: IllegalStateException: there are eight");
        B.state("a ninth date", Recipe.ALL_DATES, y -> y.date(0, 63));
        B.state("a ninth date", Recipe.ALL_DATES, y -> y.date(255, 255));
    }

    private static void weight() {
        B.sentence("Promise 3: A year's weight: what it was");
        SeedChains x = Recipe.NOT_STARTED.make();
        B.gives(3, "weight(0, 10, 1000)", x, y -> y.weight(0, 10, 1000));
        B.gives(1000, "weight(0, 10, 1)", x, y -> y.weight(0, 10, 1));
        B.gives(1, "weight(0, 10, 999)", x, y -> y.weight(0, 10, 999));
        B.gives(1, "the next year", x, y -> y.weight(0, 11, 8));
        B.gives(1, "the same year of another date", x, y -> y.weight(1, 14, 9));
        B.gives(1, "the same year of the first date", x, y -> y.weight(0, 14, 9));
        B.gives(5, "the last year of another date", x, y -> y.weight(1, 18, 9));
        B.sentence("Promise 3: What was started, and all saved states, are gone");
        SeedChains ready = Recipe.READY.make();
        B.gives(3, "the same weight again", ready, y -> y.weight(0, 10, 3));
        B.gone("the same weight again", ready);
        SeedChains saved = Recipe.ALL_SAVED.make();
        saved.weight(0, 30, 1000);
        B.gone("weight", saved);
        B.gives(0, "start()", saved, SeedChains::start);
        B.gives(0, "the first saved state", saved, SeedChains::save);
        B.sentence("Promise 3: NoSuchElementException; IllegalArgumentException: weight");
        for (Recipe recipe : new Recipe[] {Recipe.READY, Recipe.NOT_STARTED}) {
            B.noElement("weight(-1, 10, 1)", recipe, y -> y.weight(-1, 10, 1));
            B.noElement("weight(3, 10, 1)", recipe, y -> y.weight(3, 10, 1));
            B.noElement("weight(0, 9, 1)", recipe, y -> y.weight(0, 9, 1));
            B.noElement("weight(0, 15, 1)", recipe, y -> y.weight(0, 15, 1));
            B.argument("weight(0, 10, 0)", recipe, y -> y.weight(0, 10, 0));
            B.argument("weight(0, 14, 1001)", recipe, y -> y.weight(0, 14, 1001));
        }
    }

    private static void before() {
        B.sentence("Promise 4: An order: its number");
        SeedChains x = Recipe.READY.make();
        B.gives(1, "before(1, 0, 0, 255)", x, y -> y.before(1, 0, 0, 255));
        B.gives(2, "the same once more", x, y -> y.before(1, 0, 0, 255));
        B.gives(3, "before(0, 2, 0, 0)", x, y -> y.before(0, 2, 0, 0));
        B.gives(4, "count(1)", x, y -> y.count(1));
        B.sentence("Promise 4: What was started, and all saved states, are gone");
        SeedChains ready = Recipe.READY.make();
        B.gives(1, "an order that there is", ready, y -> y.before(0, 1, 2, 7));
        B.gone("an order that there is", ready);
        SeedChains dates = Recipe.ALL_DATES.make();
        B.gives(1, "before(0, 1, 0, 255)", dates, y -> y.before(0, 1, 0, 255));
        B.gone("before", dates);
        B.gives(0, "start()", dates, SeedChains::start);
        B.gives(0, "the first saved state", dates, SeedChains::save);
        B.sentence("Promise 4: IllegalArgumentException: a is b");
        for (int date = 0; date < 3; date++) {
            int d = date;
            B.argument("before(" + d + ", " + d + ", 0, 0)", Recipe.READY, y -> y.before(d, d, 0, 0));
        }
        B.argument("before(7, 7, 0, 255)", Recipe.ALL_DATES, y -> y.before(7, 7, 0, 255));
        B.sentence("Promise 4: IllegalArgumentException: least is above most");
        SeedChains equal = Recipe.READY.make();
        B.gives(1, "least is most", equal, y -> y.before(0, 1, 6, 6));
        B.argument("before(0, 1, 7, 6)", Recipe.READY, y -> y.before(0, 1, 7, 6));
        B.argument("before(0, 1, 1, 0)", Recipe.READY, y -> y.before(0, 1, 1, 0));
        B.argument("before(0, 1, 255, 0)", Recipe.READY, y -> y.before(0, 1, 255, 0));
        B.argument("before(0, 1, 255, 254)", Recipe.READY, y -> y.before(0, 1, 255, 254));
        B.sentence("Promise 4: NoSuchElementException");
        for (int date : new int[] {-1, 3, 8, Integer.MIN_VALUE, Integer.MAX_VALUE}) {
            B.noElement("before(" + date + ", 0, 0, 1)", Recipe.READY, y -> y.before(date, 0, 0, 1));
            B.noElement("before(0, " + date + ", 0, 1)", Recipe.READY, y -> y.before(0, date, 0, 1));
            B.noElement("before(" + date + ", itself)", Recipe.READY, y -> y.before(date, date, 0, 1));
        }
        B.sentence("Promise 4: IllegalStateException: there are 24");
        B.state("a 25th order", Recipe.ALL_ORDERS, y -> y.before(0, 1, 0, 255));
        B.state("a 25th order", Recipe.ALL_ORDERS, y -> y.before(1, 0, 255, 255));
    }

    private static void member() {
        B.sentence("Promise 5: The phase of which a date is a member (NONE: of none): which it was");
        SeedChains x = Recipe.READY.make();
        B.gives(1, "member(0, NONE)", x, y -> y.member(0, NONE));
        B.gives(NONE, "member(0, NONE) again", x, y -> y.member(0, NONE));
        B.gives(NONE, "member(0, 0)", x, y -> y.member(0, 0));
        B.gives(0, "member(0, 3)", x, y -> y.member(0, 3));
        B.gives(3, "member(0, 3) again", x, y -> y.member(0, 3));
        B.gives(3, "member(2, NONE)", x, y -> y.member(2, NONE));
        B.gives(1, "another date", x, y -> y.member(1, 2));
        B.sentence("Promise 5: a member's change leaves all that was started");
        SeedChains same = Recipe.READY.make();
        same.member(0, NONE);
        same.member(0, 1);
        B.unchanged("member, there and back", Recipe.READY, same);
        B.sentence("Promise 5: NoSuchElementException");
        for (int wrong : new int[] {-1, 3, 7, 8, Integer.MIN_VALUE, Integer.MAX_VALUE}) {
            B.noElement("member(" + wrong + ", 0)", Recipe.READY, y -> y.member(wrong, 0));
            B.noElement("member(" + wrong + ", NONE)", Recipe.READY, y -> y.member(wrong, NONE));
        }
        for (int wrong : new int[] {-2, 4, Integer.MIN_VALUE, Integer.MAX_VALUE}) {
            B.noElement("member(1, " + wrong + ")", Recipe.READY, y -> y.member(1, wrong));
        }
        B.noElement("member(0, 0) without dates", Recipe.NEW, y -> y.member(0, 0));
    }

    private static void burn() {
        B.sentence("Promise 6: The burn-in: what it was (0 .. 100)");
        SeedChains x = Recipe.NEW.make();
        B.gives(0, "burn(100)", x, y -> y.burn(100));
        B.gives(100, "burn(99)", x, y -> y.burn(99));
        B.gives(99, "burn(1)", x, y -> y.burn(1));
        B.gives(1, "burn(0)", x, y -> y.burn(0));
        B.gives(0, "burn(0) again", x, y -> y.burn(0));
        B.sentence("Promise 6: for steps from now on");
        SeedChains ready = Recipe.ALL_SAVED.make();
        ready.burn(15);
        B.gives(13, "rows of earlier steps stay", ready, y -> y.count(3));
        B.gives(13, "steps 14 and 15", ready, y -> y.run(2));
        B.gives(14, "step 16", ready, y -> y.run(1));
        ready.burn(0);
        B.gives(14, "steps that were burnt stay so", ready, y -> y.count(3));
        B.gives(15, "step 17", ready, y -> y.run(1));
        ready.burn(100);
        B.gives(15, "up to step 100", ready, y -> y.run(83));
        B.gives(16, "step 101", ready, y -> y.run(1));
        ready.start();
        B.gives(0, "the burn-in stays behind a start, up to step 100", ready, y -> y.run(100));
        B.gives(1, "the burn-in stays behind a start, step 101", ready, y -> y.run(1));
        B.sentence("Promise 6: IllegalArgumentException");
        for (int wrong : new int[] {-1, 101, Integer.MIN_VALUE, Integer.MAX_VALUE}) {
            B.argument("burn(" + wrong + ")", Recipe.READY, y -> y.burn(wrong));
            B.argument("burn(" + wrong + ")", Recipe.NEW, y -> y.burn(wrong));
        }
    }

    private static void thin() {
        B.sentence("Promise 7: How rows are thinned: what it was (1 .. 20)");
        SeedChains x = Recipe.NEW.make();
        B.gives(1, "thin(20)", x, y -> y.thin(20));
        B.gives(20, "thin(19)", x, y -> y.thin(19));
        B.gives(19, "thin(2)", x, y -> y.thin(2));
        B.gives(2, "thin(1)", x, y -> y.thin(1));
        B.gives(1, "thin(1) again", x, y -> y.thin(1));
        B.sentence("Promise 7: for steps from now on");
        SeedChains ready = Recipe.ALL_SAVED.make();
        ready.thin(20);
        B.gives(13, "rows of earlier steps stay", ready, y -> y.count(3));
        B.gives(13, "steps 14 .. 19", ready, y -> y.run(6));
        B.gives(14, "step 20", ready, y -> y.run(1));
        B.gives(14, "steps 21 .. 39", ready, y -> y.run(19));
        B.gives(15, "step 40", ready, y -> y.run(1));
        ready.thin(1);
        B.gives(15, "steps that were left out stay so", ready, y -> y.count(3));
        B.gives(16, "step 41", ready, y -> y.run(1));
        ready.thin(3);
        ready.start();
        B.gives(0, "thin stays behind a start, steps 1 and 2", ready, y -> y.run(2));
        B.gives(1, "thin stays behind a start, step 3", ready, y -> y.run(1));
        B.sentence("Promise 7: IllegalArgumentException");
        for (int wrong : new int[] {0, -1, 21, Integer.MIN_VALUE, Integer.MAX_VALUE}) {
            B.argument("thin(" + wrong + ")", Recipe.READY, y -> y.thin(wrong));
            B.argument("thin(" + wrong + ")", Recipe.NEW, y -> y.thin(wrong));
        }
    }

    public static void main(String[] args) {
        newObject();
        date();
        weight();
        before();
        member();
        burn();
        thin();
        B.end();
    }
}
