import java.util.ArrayList;
import java.util.List;
import java.util.Random;

/** Long mixed runs of calls, right and wrong ones, answered by the class as by the model. */
public final class ModelTests {
    private static final int RUNS = 250;
    /** Nothing is promised behind an object's 512th call; the last of them look at what has come of the others. */
    private static final int CALLS = 512;
    private static final int LAST_LOOKS = 120;

    private final Check check;
    private final Random random;
    private final int number;
    private final SeedChains x;
    private final Model model;
    private final List<String> calls = new ArrayList<>();
    /** A year for each date; most orders are made to hold with these, or few sites would start. */
    private final int[] hidden = new int[8];
    private boolean well = true;

    private ModelTests(Check check, int number) {
        this.check = check;
        this.number = number;
        this.random = new Random(number);
        int seed = number % 3 == 0 ? random.nextInt() : random.nextInt(200) - 100;
        int chains = random.nextInt(7) - 1;
        this.x = new SeedChains(seed, chains);
        this.model = new Model(seed, chains);
        calls.add("new SeedChains(" + seed + ", " + chains + ")");
    }

    private void both(String call, Check.Call ofModel, Check.Call ofClass) {
        calls.add(call);
        if (well && !check.due("run " + number + ", call " + (calls.size() - 1) + ": " + call, Check.outcome(ofModel), ofClass)) {
            well = false;
            int from = Math.max(0, calls.size() - 40);
            System.out.println("  behind " + calls.subList(from, calls.size()));
        }
    }

    /** Mostly between, now and then just outside, seldom far away. */
    private int near(int least, int greatest) {
        int kind = random.nextInt(60);
        if (kind == 0) {
            return random.nextInt();
        }
        if (kind == 1) {
            return least - 1;
        }
        return kind == 2 ? greatest + 1 : least + random.nextInt(Math.max(1, greatest - least + 1));
    }

    private int anyDate() {
        return near(0, Math.max(0, model.count(0) - 1));
    }

    private int yearNear(int date) {
        if (date < 0 || date >= hidden.length || random.nextInt(10) == 0) {
            return near(0, 255);
        }
        return hidden[date] + random.nextInt(9) - 4;
    }

    private void date() {
        int year = random.nextInt(3) == 0 ? random.nextInt(256) : 100 + random.nextInt(40);
        int spread = random.nextInt(64);
        int under = random.nextInt(spread + 1);
        boolean odd = random.nextInt(25) == 0;
        int first = odd ? near(0, 255) : Math.max(0, year - under);
        int last = odd ? near(0, 255) : Math.min(255, year + spread - under);
        if (model.count(0) < 8) {
            hidden[model.count(0)] = year;
        }
        both("date(" + first + ", " + last + ")", () -> model.date(first, last), () -> x.date(first, last));
    }

    private void weight() {
        int date = anyDate();
        int year = yearNear(date);
        int w = near(1, random.nextBoolean() ? 1000 : 5);
        both("weight(" + date + ", " + year + ", " + w + ")", () -> model.weight(date, year, w), () -> x.weight(date, year, w));
    }

    private void before() {
        int a = anyDate();
        int b = anyDate();
        boolean odd = random.nextInt(25) == 0 || a < 0 || b < 0 || a > 7 || b > 7;
        int behind = odd ? 0 : hidden[b] - hidden[a];
        if (behind < 0) {
            before(b, a, -behind, false);
        } else {
            before(a, b, behind, odd);
        }
    }

    private void before(int a, int b, int behind, boolean odd) {
        int least = odd ? near(0, 255) : behind - random.nextInt(Math.min(behind, 12) + 1);
        int most = odd ? near(0, 255) : random.nextInt(5) == 0 ? 255 : Math.min(255, behind + random.nextInt(12));
        both("before(" + a + ", " + b + ", " + least + ", " + most + ")",
                () -> model.before(a, b, least, most), () -> x.before(a, b, least, most));
    }

    private void settings() {
        int kind = random.nextInt(3);
        if (kind == 0) {
            int steps = near(0, random.nextInt(8) == 0 ? 100 : 8);
            both("burn(" + steps + ")", () -> model.burn(steps), () -> x.burn(steps));
        } else if (kind == 1) {
            int every = near(1, random.nextInt(3) == 0 ? 20 : 4);
            both("thin(" + every + ")", () -> model.thin(every), () -> x.thin(every));
        } else {
            int date = anyDate();
            int phase = near(-1, 3);
            both("member(" + date + ", " + phase + ")", () -> model.member(date, phase), () -> x.member(date, phase));
        }
    }

    private void course() {
        int kind = random.nextInt(20);
        if (kind < 1) {
            both("start()", model::start, x::start);
        } else if (kind < 15) {
            int steps = random.nextInt(4) == 0 ? near(0, 100) : near(0, 12);
            both("run(" + steps + ")", () -> model.run(steps), () -> x.run(steps));
        } else if (kind < 17) {
            both("save()", model::save, x::save);
        } else {
            int which = near(0, Math.max(0, model.count(5) - 1));
            both("back(" + which + ")", () -> model.back(which), () -> x.back(which));
        }
    }

    private void look() {
        int date = anyDate();
        int year = yearNear(date);
        switch (random.nextInt(6)) {
            case 0:
                int chain = near(0, model.count(2) - 1);
                int row = near(-1, Math.max(0, model.count(3) - 1));
                both("at(" + chain + ", " + row + ", " + date + ")", () -> model.at(chain, row, date), () -> x.at(chain, row, date));
                break;
            case 1:
                both("counted(" + date + ", " + year + ")", () -> model.counted(date, year), () -> x.counted(date, year));
                break;
            case 2:
                both("apart(" + date + ")", () -> model.apart(date), () -> x.apart(date));
                break;
            case 3:
                both("agreement(" + date + ")", () -> model.agreement(date), () -> x.agreement(date));
                break;
            case 4:
                int phase = near(0, 3);
                int years = near(0, random.nextInt(4) == 0 ? 255 : 30);
                both("spans(" + phase + ", " + years + ")", () -> model.spans(phase, years), () -> x.spans(phase, years));
                break;
            default:
                int what = near(0, 5);
                both("count(" + what + ")", () -> model.count(what), () -> x.count(what));
                break;
        }
    }

    /** With the calls that are left: that no call changed what it should leave alone. */
    private void lookAtAll() {
        for (int what = 0; what <= 5; what++) {
            int w = what;
            both("count(" + w + ")", () -> model.count(w), () -> x.count(w));
        }
        for (int d = 0; d < model.count(0); d++) {
            int date = d;
            both("apart(" + date + ")", () -> model.apart(date), () -> x.apart(date));
            both("agreement(" + date + ")", () -> model.agreement(date), () -> x.agreement(date));
        }
        while (calls.size() <= CALLS) {
            int chain = random.nextInt(model.count(2));
            int row = random.nextInt(model.count(3) + 1) - 1;
            int date = random.nextInt(Math.max(1, model.count(0)));
            both("at(" + chain + ", " + row + ", " + date + ")", () -> model.at(chain, row, date), () -> x.at(chain, row, date));
        }
    }

    /** Changes of the site end what was started, so they come in front and seldom later. */
    private void build() {
        int dates = 1 + random.nextInt(8);
        for (int i = 0; i < dates; i++) {
            date();
        }
        int orders = random.nextInt(number % 10 == 0 ? 27 : 7);
        for (int i = 0; i < orders; i++) {
            before();
        }
        int weights = random.nextInt(30);
        for (int i = 0; i < weights; i++) {
            weight();
        }
        both("start()", model::start, x::start);
    }

    private void go() {
        build();
        while (well && calls.size() <= CALLS - LAST_LOOKS) {
            int kind = random.nextInt(400);
            if (kind == 0) {
                date();
            } else if (kind == 1) {
                weight();
            } else if (kind == 2) {
                before();
            } else if (kind < 50) {
                settings();
            } else if (kind < 170) {
                course();
            } else {
                look();
            }
            // Without a start behind a change, most of the run would be refused calls.
            if (kind < 3) {
                both("start()", model::start, x::start);
            }
        }
        lookAtAll();
    }

    public static void main(String[] args) {
        Check check = new Check();
        for (int number = 1; number <= RUNS; number++) {
            new ModelTests(check, number).go();
        }
        check.end("ModelTests");
    }
}
