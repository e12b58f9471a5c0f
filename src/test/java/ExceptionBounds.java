/**
 * "EXCEPTIONS: NoSuchElementException .. IllegalArgumentException, then IllegalStateException, as
 * told. Such a call changes nothing." Calls with more than one fault: the first one is told.
 */
public final class ExceptionBounds {
    private static final int NONE = SeedChains.NONE;
    private static final Bounds B = new Bounds("ExceptionBounds");

    private static void argumentBeforeState() {
        B.sentence("IllegalArgumentException, then IllegalStateException");
        B.argument("date, wrong and full", Recipe.ALL_DATES, x -> x.date(1, 0));
        B.argument("date, too far and full", Recipe.ALL_DATES, x -> x.date(0, 64));
        B.argument("date, no year and full", Recipe.ALL_DATES, x -> x.date(256, 256));
        B.argument("before itself, full", Recipe.ALL_ORDERS, x -> x.before(1, 1, 0, 0));
        B.argument("before, least above most, full", Recipe.ALL_ORDERS, x -> x.before(0, 1, 2, 1));
        B.argument("before, 256 years, full", Recipe.ALL_ORDERS, x -> x.before(0, 1, 0, 256));
        B.argument("run(-1), not started", Recipe.NOT_STARTED, x -> x.run(-1));
        B.argument("run(101), not started", Recipe.NOT_STARTED, x -> x.run(101));
        B.argument("run(101), no years", Recipe.NO_YEARS, x -> x.run(101));
        B.argument("run(101), no room", Recipe.ALL_ROWS, x -> x.run(101));
        B.argument("run(-1), no room", Recipe.ALL_ROWS, x -> x.run(-1));
        B.argument("spans(0, 256), not started", Recipe.NOT_STARTED, x -> x.spans(0, 256));
        B.argument("spans(0, -1), a new object", Recipe.NEW, x -> x.spans(0, -1));
    }

    private static void elementBeforeArgument() {
        B.sentence("NoSuchElementException before IllegalArgumentException");
        B.noElement("weight of no date, no weight", Recipe.READY, x -> x.weight(3, 10, 0));
        B.noElement("weight of no year, no weight", Recipe.READY, x -> x.weight(0, 15, 1001));
        B.noElement("weight of no date, no year, no weight", Recipe.NEW, x -> x.weight(0, -1, 0));
        B.noElement("before of no dates, a is b", Recipe.READY, x -> x.before(3, 3, 0, 0));
        B.noElement("before of no date a, least above most", Recipe.READY, x -> x.before(-1, 0, 2, 1));
        B.noElement("before of no date b, 256 years", Recipe.READY, x -> x.before(0, 3, 0, 256));
        B.noElement("before without dates, -1 years", Recipe.NEW, x -> x.before(0, 1, -1, 0));
        B.noElement("spans of no phase, 256 years", Recipe.READY, x -> x.spans(4, 256));
        B.noElement("spans of no phase, -1 years", Recipe.READY, x -> x.spans(NONE, -1));
    }

    private static void elementBeforeState() {
        B.sentence("NoSuchElementException before IllegalStateException");
        B.noElement("before of no date, full", Recipe.ALL_ORDERS, x -> x.before(0, 2, 0, 0));
        B.noElement("before of no dates, all wrong and full", Recipe.ALL_ORDERS, x -> x.before(2, 2, 256, -1));
        B.noElement("counted of no date, not started", Recipe.NOT_STARTED, x -> x.counted(3, 0));
        B.noElement("counted of no year, not started", Recipe.NOT_STARTED, x -> x.counted(0, 9));
        B.noElement("apart of no date, not started", Recipe.NOT_STARTED, x -> x.apart(3));
        B.noElement("agreement of no date, not started", Recipe.NOT_STARTED, x -> x.agreement(-1));
        B.noElement("spans of no phase, not started", Recipe.NOT_STARTED, x -> x.spans(4, 0));
        B.noElement("spans of no phase, no years, not started", Recipe.NOT_STARTED, x -> x.spans(-1, 256));
        B.noElement("counted, a new object", Recipe.NEW, x -> x.counted(0, 0));
        B.noElement("apart, a new object", Recipe.NEW, x -> x.apart(0));
        B.noElement("agreement, a new object", Recipe.NEW, x -> x.agreement(0));
        B.noElement("back(0), a new object", Recipe.NEW, x -> x.back(0));
    }

    private static void at() {
        B.sentence("Promise 10: chain, date, a row below NONE; nothing is started; no such row: in this order");
        B.noElement("no chain, not started", Recipe.NOT_STARTED, x -> x.at(2, 0, 0));
        B.noElement("no date, not started", Recipe.NOT_STARTED, x -> x.at(0, 0, 3));
        B.noElement("row -2, not started", Recipe.NOT_STARTED, x -> x.at(0, -2, 0));
        B.noElement("nothing right, not started", Recipe.NOT_STARTED, x -> x.at(-1, -2, -1));
        B.noElement("a new object has no date", Recipe.NEW, x -> x.at(0, 0, 0));
        B.state("no such row, not started", Recipe.NOT_STARTED, x -> x.at(0, 60, 0));
        B.state("row 0, not started", Recipe.NOT_STARTED, x -> x.at(1, 0, 2));
        B.state("now, not started", Recipe.NOT_STARTED, x -> x.at(1, NONE, 2));
        B.state("no such row, no years", Recipe.NO_YEARS, x -> x.at(1, Integer.MAX_VALUE, 1));
        B.noElement("no such row, started", Recipe.WITHOUT_ROWS, x -> x.at(1, 0, 2));
    }

    /** Many refused calls one behind the other, so that what one of them might leave adds up. */
    private static void manyRefusedCalls() {
        B.sentence("Such a call changes nothing");
        for (Recipe recipe : new Recipe[] {Recipe.READY, Recipe.WITHOUT_ROWS, Recipe.NOT_STARTED}) {
            SeedChains x = recipe.make();
            B.gives(Check.ARGUMENT, "date(0, 64)", x, y -> y.date(0, 64));
            B.gives(Check.NO_ELEMENT, "weight(0, 15, 7)", x, y -> y.weight(0, 15, 7));
            B.gives(Check.ARGUMENT, "weight(0, 14, 0)", x, y -> y.weight(0, 14, 0));
            B.gives(Check.NO_ELEMENT, "before(0, 3, 0, 0)", x, y -> y.before(0, 3, 0, 0));
            B.gives(Check.ARGUMENT, "before(0, 0, 0, 0)", x, y -> y.before(0, 0, 0, 0));
            B.gives(Check.NO_ELEMENT, "member(0, 4)", x, y -> y.member(0, 4));
            B.gives(Check.NO_ELEMENT, "member(3, 2)", x, y -> y.member(3, 2));
            B.gives(Check.ARGUMENT, "burn(101)", x, y -> y.burn(101));
            B.gives(Check.ARGUMENT, "thin(0)", x, y -> y.thin(0));
            B.gives(Check.ARGUMENT, "run(101)", x, y -> y.run(101));
            B.gives(Check.NO_ELEMENT, "at(0, -2, 0)", x, y -> y.at(0, -2, 0));
            B.gives(Check.NO_ELEMENT, "counted(0, 9)", x, y -> y.counted(0, 9));
            B.gives(Check.NO_ELEMENT, "apart(3)", x, y -> y.apart(3));
            B.gives(Check.NO_ELEMENT, "agreement(3)", x, y -> y.agreement(3));
            B.gives(Check.ARGUMENT, "spans(0, 256)", x, y -> y.spans(0, 256));
            B.gives(Check.NO_ELEMENT, "back(2)", x, y -> y.back(2));
            B.gives(Check.NO_ELEMENT, "count(6)", x, y -> y.count(6));
            B.unchanged("all these calls", recipe, x);
        }
    }

    public static void main(String[] args) {
        argumentBeforeState();
        elementBeforeArgument();
        elementBeforeState();
        at();
        manyRefusedCalls();
        B.end();
    }
}
