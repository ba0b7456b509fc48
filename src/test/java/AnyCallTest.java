import java.util.NoSuchElementException;
import java.util.Random;

/**
 * Any call with any arguments in any state: nothing but runner's NoSuchElementException comes out, the answer is one
 * that the document knows of, a second object that is asked the same answers the same, and what the calls tell of the
 * same thing fits together.
 */
public final class AnyCallTest {
    private static final Check CHECK = new Check("AnyCallTest");
    private static final int RUNS = 400;
    /** With those behind them, that lay the answers beside one another, an object is asked fewer than 512 times. */
    private static final int WILD_CALLS = 290;
    private static final int THROWN = Integer.MIN_VALUE;
    private static final int[] EDGES = {
        Integer.MIN_VALUE, Integer.MIN_VALUE + 1, -65536, -256, -1000, -64, -31, -2, -1, 0, 1, 2, 3, 4, 5, 6, 7, 8, 9,
        10, 12, 13, 20, 29, 30, 31, 32, 59, 60, 63, 64, 65, 99, 100, 120, 121, 180, 181, 199, 200, 201, 255, 256, 998,
        999, 1000, 1001, 9998, 9999, 10000, 65536, Integer.MAX_VALUE - 1, Integer.MAX_VALUE,
    };
    private static final String[] TEXTS = {
        "", ";", "age 18;", "age 121;", "proof 1;doubt filed;", "doubt young;", "hidden barred;days 0;", "age", "days 9999",
        "proof 9;proof 9;", "\n age 120 ; hidden heard ;", "doubt nobody", "~", "age 1;7",
        " ".repeat(200), " ".repeat(197) + "age", "proof " + "0".repeat(194), "age 7;" + "\n".repeat(194),
    };

    private final Random random;
    private final LandRun x = new LandRun();
    private final LandRun twin = new LandRun();
    private final String name;
    private int asked = 0;

    private AnyCallTest(int seed) {
        random = new Random(seed);
        name = "run " + seed + ": ";
    }

    public static void main(String[] args) {
        for (int seed = 1; seed <= RUNS; seed++) {
            AnyCallTest test = new AnyCallTest(seed);
            while (test.asked < WILD_CALLS) {
                test.anyCall();
            }
            test.stakesFit();
            test.judgingFits();
        }
        CHECK.finish();
    }

    private int number() {
        return random.nextInt(8) == 0 ? random.nextInt() : EDGES[random.nextInt(EDGES.length)];
    }

    /** Mostly a number that can be right, so that the objects come into many states. */
    private int upTo(int most) {
        return random.nextInt(5) == 0 ? number() : random.nextInt(most + 1);
    }

    private void same(String what, int got, int other, int least, int most) {
        asked++;
        CHECK.due(name + what + " as its twin", got, other);
        CHECK.yes(name + what + " answered " + got, got >= least && got <= most);
    }

    private void same(String what, boolean got, boolean other) {
        asked++;
        CHECK.yes(name + what + " as its twin", got == other);
    }

    private void anyCall() {
        switch (random.nextInt(16)) {
            case 0: case 1:
                tape();
                break;
            case 2:
                int q = upTo(63);
                int worth = upTo(99);
                int rough = upTo(3);
                same("land(" + q + ", " + worth + ", " + rough + ")", x.land(q, worth, rough),
                        twin.land(q, worth, rough));
                break;
            case 3: case 4:
                person();
                break;
            case 5:
                int n = upTo(12);
                if (asked > WILD_CALLS / 3) {
                    same("run(" + n + ")", x.run(n), twin.run(n), -1, 9999);
                }
                break;
            case 6:
                text();
                same("law()", x.law(), twin.law(), -201, 5);
                same("fault()", x.fault(), twin.fault(), 0, 4);
                break;
            case 7: case 8: case 9:
                claims();
                break;
            case 10:
                lots();
                break;
            case 11:
                bids();
                break;
            default:
                ask();
                break;
        }
    }

    private void tape() {
        int n = number();
        if (random.nextBoolean()) {
            same("end(" + n + ")", x.end(n), twin.end(n));
            return;
        }
        int a = number();
        int b = number();
        int c = number();
        int d = number();
        int e = number();
        same("feed", x.feed(a, b, c, d, e), twin.feed(a, b, c, d, e), -1, 200);
    }

    private void bytes(int... bytes) {
        same("end(0)", x.end(0), twin.end(0));
        Check.tape(x, bytes);
        Check.tape(twin, bytes);
        asked += 1 + (bytes.length + 19) / 20;
    }

    private void text() {
        if (random.nextInt(4) != 0) {
            bytes(Check.bytesOf(TEXTS[random.nextInt(TEXTS.length)]));
        }
    }

    private void person() {
        int from = upTo(7);
        boolean hid = random.nextBoolean();
        int pace = upTo(9);
        int age = upTo(120);
        if (random.nextInt(6) != 0) {
            int first = random.nextInt(40);
            bytes(first, first + 1 + random.nextInt(8), first + 9 + random.nextInt(16));
        }
        same("person(" + from + ", " + hid + ", " + pace + ", " + age + ")", x.person(from, hid, pace, age),
                twin.person(from, hid, pace, age), -1, 29);
    }

    private void claims() {
        int n = random.nextInt(3) == 0 ? number() : random.nextInt(20);
        int p = upTo(5);
        int q = upTo(4);
        switch (random.nextInt(4)) {
            case 0:
                same("wait(" + n + ")", x.wait(n), twin.wait(n));
                break;
            case 1: case 2:
                same("file(" + p + ", " + q + ")", x.file(p, q), twin.file(p, q), -1, 59);
                break;
            default:
                int to = random.nextInt(3) == 0 ? number() : n + random.nextInt(20);
                same("witness(" + p + ", " + n + ", " + to + ")", x.witness(p, n, to), twin.witness(p, n, to), -1, 200);
                break;
        }
    }

    private void lots() {
        if (random.nextInt(4) != 0) {
            bytes(random.nextInt(3), 3 + random.nextInt(3), 6 + random.nextInt(30));
        }
        same("lots()", x.lots(), twin.lots(), -1, 30 * 99);
    }

    private void bids() {
        if (random.nextInt(4) != 0) {
            bytes(random.nextInt(256), random.nextInt(256), random.nextInt(3));
        }
        int p = upTo(9);
        same("bid(" + p + ")", x.bid(p), twin.bid(p));
        same("sell()", x.sell(), twin.sell(), 0, 8 * 255);
    }

    private void ask() {
        int a = upTo(30);
        int b = upTo(999);
        int what = upTo(7);
        switch (random.nextInt(8)) {
            case 0:
                same("runner(" + a + ", " + what + ")", runner(x, a, what), runner(twin, a, what), THROWN, 9999);
                break;
            case 1:
                same("staked(" + a + ")", x.staked(a), twin.staked(a), -1, 29);
                break;
            case 2:
                same("span(" + a + ", " + b + ", " + what + ")", x.span(a, b, what), twin.span(a, b, what), -1, 9999);
                break;
            case 3:
                same("judge(" + a + ", " + b + ")", x.judge(a, b), twin.judge(a, b), -1, 59);
                break;
            case 4:
                same("doubt(" + a + ", " + b + ")", x.doubt(a, b), twin.doubt(a, b), -1, 1);
                break;
            case 5:
                same("drawn(" + a + ")", x.drawn(a), twin.drawn(a), -1, 63);
                break;
            case 6:
                same("bought(" + a + ")", x.bought(a), twin.bought(a), -1, 63);
                break;
            default:
                same("count(" + what + ")", x.count(what), twin.count(what), -1, 9999);
                break;
        }
    }

    private static int runner(LandRun asked, int p, int what) {
        try {
            return asked.runner(p, what);
        } catch (NoSuchElementException e) {
            return THROWN;
        }
    }

    /** Who staked a quarter tells of it, is done, and is there; as many as that are counted. */
    private void stakesFit() {
        int staked = 0;
        for (int q = 0; q < 64; q++) {
            int p = x.staked(q);
            if (p != LandRun.NONE) {
                staked++;
                CHECK.due(name + "stake of " + p, x.runner(p, 2), q);
                CHECK.due(name + "place of " + p, x.runner(p, 0), q);
                CHECK.due(name + "goal of " + p, x.runner(p, 1), LandRun.NONE);
            }
        }
        CHECK.due(name + "count(2)", x.count(2), staked);
    }

    /** Who has a quarter is lawful, and nobody has one without a lawful claim; the claims of the last day are all. */
    private void judgingFits() {
        for (int q = 0; q < 5; q++) {
            int winner = twin.judge(q, 999);
            int doubt = twin.doubt(q, 999);
            CHECK.yes(name + "doubt " + doubt + " with " + winner, doubt == 1 || (doubt == 0) == (winner >= 0));
            if (winner != LandRun.NONE) {
                CHECK.due(name + "lawful " + winner, twin.span(winner, 999, 3), 1);
            }
        }
        int claims = twin.count(4);
        for (int k = 0; k < 60; k++) {
            int begin = twin.span(k, 999, 0);
            CHECK.yes(name + "claim " + k + " counts", (begin != LandRun.NONE) == (k < claims));
            CHECK.yes(name + "span of " + k, begin <= twin.span(k, 999, 1));
        }
    }
}
