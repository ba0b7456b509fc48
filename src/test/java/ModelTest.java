import java.util.NoSuchElementException;
import java.util.Random;

/** All promises: long runs of calls, the same ones each time, on the class and on the model beside it. */
public final class ModelTest {
    private static final Check CHECK = new Check("ModelTest");
    private static final String[] RULES = {
        "age 0;", "age 40;", "age 121;", "age 120;", "hidden barred;", "hidden heard;", "proof 0;", "proof 1;",
        "proof 2;", "proof 3;", "proof 10;", "days 0;", "days 3;", "days 40;", "days 999;", "doubt filed;",
        "doubt young;", "doubt nobody;",
    };
    private static final String SIGNS = " \n;;aeghzd019AZ#~";

    private final Random random;
    private final LandRun x = new LandRun();
    private final Model m = new Model();
    private final String name;
    /** Few values make like ones and meetings likely. */
    private final int worths;
    private final int quarters;
    private final int minutes;
    private final int bids;
    private int calls = 0;

    private ModelTest(int seed) {
        random = new Random(seed);
        name = "run " + seed + ", call ";
        worths = 1 + random.nextInt(random.nextBoolean() ? 3 : 100);
        quarters = 1 + random.nextInt(64);
        minutes = random.nextBoolean() ? 20 : 10000;
        bids = 1 + random.nextInt(random.nextBoolean() ? 3 : 256);
    }

    public static void main(String[] args) {
        int runs = args.length > 0 ? Integer.parseInt(args[0]) : 400;
        for (int seed = 1; seed <= runs; seed++) {
            new ModelTest(seed).play();
        }
        CHECK.finish();
    }

    private void due(String what, long got, long want) {
        calls++;
        CHECK.due(name + calls + ": " + what, got, want);
    }

    private void due(String what, boolean got, boolean want) {
        due(what, got ? 1 : 0, want ? 1 : 0);
    }

    private int pick(int limit) {
        return random.nextInt(limit);
    }

    /** Now and then a number that is beyond the limits. */
    private int near(int limit) {
        if (pick(300) == 0) {
            return pick(2) == 0 ? Integer.MIN_VALUE : Integer.MAX_VALUE;
        }
        return pick(40) == 0 ? pick(3) - 1 + limit * pick(2) : pick(limit);
    }

    private void tape(int... bytes) {
        for (int at = 0; at < bytes.length || at == 0; at += 20) {
            int[] numbers = new int[5];
            for (int i = 0; i < 20; i++) {
                numbers[i / 4] = numbers[i / 4] << 8 | (at + i < bytes.length ? bytes[at + i] : 0);
            }
            due("feed", x.feed(numbers[0], numbers[1], numbers[2], numbers[3], numbers[4]), m.feed(numbers));
        }
        due("end", x.end(bytes.length), m.end(bytes.length));
    }

    private void play() {
        int people = pick(31);
        for (int i = pick(64); i > 0; i--) {
            addLand();
        }
        for (int i = 0; i < people; i++) {
            addPerson();
        }
        while (calls < 500) {
            step();
        }
    }

    private void addLand() {
        int q = near(64);
        int worth = pick(worths);
        int rough = near(4);
        due("land " + q, x.land(q, worth, rough), m.land(q, worth, rough));
    }

    private void addPerson() {
        int[] known = new int[pick(9) == 0 ? pick(14) : pick(5)];
        for (int i = 0; i < known.length; i++) {
            known[i] = pick(60) == 0 ? pick(256) : (known[0] + i * (1 + pick(9))) % quarters;
        }
        tape(known);
        boolean hid = pick(3) == 0;
        int from = near(hid ? 64 : 8);
        int pace = 1 + pick(9);
        int age = pick(4) == 0 ? near(121) : 20 + pick(3);
        due("person " + from, x.person(from, hid, pace, age), m.person(from, hid, pace, age));
    }

    private void step() {
        switch (pick(14)) {
            case 0:
                int n = pick(3) == 0 ? pick(1002) : pick(12);
                due("run " + n, x.run(n), m.run(n));
                break;
            case 1:
                tellLaw();
                break;
            case 2:
                int wait = pick(3) == 0 ? near(300) : pick(4);
                due("wait " + wait, x.wait(wait), m.waitDays(wait));
                break;
            case 3:
                if (pick(9) == 0) {
                    addPerson();
                } else {
                    int p = near(Math.max(1, m.people.size()));
                    int q = pick(3) == 0 ? near(64) : pick(3);
                    due("file " + p + " " + q, x.file(p, q), m.file(p, q));
                }
                break;
            case 4: case 5:
                int k = near(Math.max(1, Math.min(6, m.claims.size())));
                int from = pick(minutes);
                int to = pick(20) == 0 ? near(10000) : from + pick(minutes == 20 ? 12 : 3000);
                due("witness " + k + " " + from + " " + to, x.witness(k, from, to), m.witness(k, from, to));
                break;
            case 6:
                drawLots();
                break;
            case 7:
                tellBids();
                break;
            case 8:
                if (pick(8) == 0) {
                    due("sell", x.sell(), m.sell());
                }
                break;
            default:
                ask();
                break;
        }
    }

    private void tellLaw() {
        StringBuilder text = new StringBuilder();
        for (int i = pick(5); i > 0; i--) {
            text.append(RULES[pick(RULES.length)]).append(pick(4) == 0 ? " \n" : "");
        }
        if (pick(3) == 0 && text.length() > 0) {
            text.setCharAt(pick(text.length()), SIGNS.charAt(pick(SIGNS.length())));
        }
        if (pick(5) == 0 && text.length() > 0) {
            text.setLength(pick(text.length()));
        }
        tape(Check.bytesOf(text.toString()));
        due("law '" + text + "'", x.law(), m.law());
        due("fault", x.fault(), m.fault);
        due("count 6", x.count(6), m.count(6));
    }

    private void drawLots() {
        int[] order = new int[pick(1 + m.people.size())];
        int first = pick(1 + m.people.size());
        for (int i = 0; i < order.length; i++) {
            order[i] = pick(60) == 0 ? pick(32) : (first + i) % m.people.size();
        }
        tape(order);
        due("lots", x.lots(), m.lots());
    }

    private void tellBids() {
        int p = pick(3) == 0 ? near(1 + m.people.size()) : pick(8);
        int known = p >= 0 && p < m.people.size() ? m.people.get(p).known.size() : pick(3);
        int[] pence = new int[pick(20) == 0 ? pick(12) : known];
        for (int i = 0; i < pence.length; i++) {
            pence[i] = pick(3) == 0 ? 0 : pick(bids);
        }
        tape(pence);
        due("bid " + p, x.bid(p), m.bid(p));
    }

    private void ask() {
        int q = pick(3) == 0 ? near(64) : pick(3);
        int p = pick(4) == 0 ? near(30) : near(Math.max(1, m.people.size()));
        int day = pick(3) == 0 ? pick(1002) - 1 : pick(2 + m.day);
        int k = near(Math.max(1, m.claims.size()));
        int what = near(8);
        switch (pick(9)) {
            case 0:
                due("staked " + q, x.staked(q), m.staked(q));
                break;
            case 1:
                due("span " + k + " " + day, x.span(k, day, what - 2), m.span(k, day, what - 2));
                break;
            case 2:
                due("judge " + q + " " + day, x.judge(q, day), m.judged(q, day)[0]);
                break;
            case 3:
                due("doubt " + q + " " + day, x.doubt(q, day), m.judged(q, day)[1]);
                break;
            case 4:
                due("drawn " + p, x.drawn(p), m.drawn(p));
                break;
            case 5:
                due("bought " + p % 9, x.bought(p % 9), m.bought(p % 9));
                break;
            case 6:
                due("count " + what, x.count(what), m.count(what));
                break;
            default:
                askRunner(p, what);
                break;
        }
    }

    private void askRunner(int p, int what) {
        long got = -2;
        long want = -2;
        try {
            got = x.runner(p, what);
        } catch (NoSuchElementException e) {
            got = -3;
        }
        try {
            want = m.runner(p, what);
        } catch (NoSuchElementException e) {
            want = -3;
        }
        due("runner " + p + " " + what, got, want);
    }
}
