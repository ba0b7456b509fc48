import java.util.List;
import java.util.function.Consumer;
import java.util.function.ToIntFunction;

/**
 * Each call that is refused, or throws, or tells NONE: the object tells afterwards, and does, what a twin does that
 * has never heard of the call. A call that reads the tape leaves it empty, so the twin's is emptied too.
 */
public final class RefusedTest {
    private static final Check CHECK = new Check("RefusedTest");
    private static final int NONE = LandRun.NONE;
    private static final int NO = 0;
    private static final int MIN = Integer.MIN_VALUE;
    private static final int MAX = Integer.MAX_VALUE;

    private RefusedTest() {
    }

    public static void main(String[] args) {
        for (Consumer<LandRun> world : List.<Consumer<LandRun>>of(RefusedTest::opening, RefusedTest::running)) {
            tapeCalls(world);
            landAndRunCalls(world);
            throwingCalls(world);
            personCalls(world);
            lawCalls(world);
            courtCalls(world);
            lotsAndBidsCalls(world);
            askingCalls(world);
        }
        tooLateForTheRun();
        fullWorlds();
        CHECK.finish();
    }

    /** A bit of everything, on day 5, with a law on the tape, and the run not begun. */
    private static void opening(LandRun x) {
        x.land(0, 5, 1);
        x.land(9, 7, 2);
        x.land(63, 99, 3);
        Check.lineman(x, 0, 2, 30, 9, 0);
        Check.hidden(x, 10, 3, 20, 9, 3);
        Check.lineman(x, 7, 9, 40, 63, 0, 9);
        Check.hidden(x, 0, 1, 50);
        x.file(0, 9);
        x.wait(5);
        x.file(1, 9);
        x.file(2, 63);
        x.witness(0, 3, 8);
        x.witness(1, 8, 9);
        Check.law(x, "doubt filed;days 5;");
        Check.bid(x, 0, 5, 6);
        Check.bid(x, 1, 9, 1);
        Check.bid(x, 2, 3, 7, 255);
        x.sell();
        Check.lots(x, 2, 0);
        Check.tape(x, Check.bytesOf("doubt young;"));
    }

    private static void running(LandRun x) {
        opening(x);
        x.run(7);
    }

    private static void beside(String what, LandRun x, LandRun y) {
        same(what + ", then ", Told.now(x), Told.now(y));
        CHECK.due(what + ", then fault", x.fault(), y.fault());
        same(what + ", later ", Told.later(x), Told.later(y));
    }

    private static void same(String what, List<String> got, List<String> want) {
        for (int i = 0; i < Math.max(got.size(), want.size()); i++) {
            String mine = i < got.size() ? got.get(i) : "nothing";
            String other = i < want.size() ? want.get(i) : "nothing";
            CHECK.yes(what + mine + ", its twin's " + other, mine.equals(other));
        }
    }

    private static void refused(Consumer<LandRun> world, String what, ToIntFunction<LandRun> call, int answer) {
        LandRun x = new LandRun();
        LandRun y = new LandRun();
        world.accept(x);
        world.accept(y);
        CHECK.due(what, call.applyAsInt(x), answer);
        beside(what, x, y);
    }

    private static void refusedTape(Consumer<LandRun> world, String what, ToIntFunction<LandRun> call, int answer,
            int... bytes) {
        LandRun x = new LandRun();
        LandRun y = new LandRun();
        world.accept(x);
        world.accept(y);
        x.end(0);
        y.end(0);
        Check.tape(x, bytes);
        CHECK.due(what, call.applyAsInt(x), answer);
        beside(what, x, y);
    }

    private static int number(boolean answer) {
        return answer ? 1 : 0;
    }

    private static void tapeCalls(Consumer<LandRun> world) {
        for (int n : new int[] {MIN, -1, 13, 200, MAX}) {
            refused(world, "end(" + n + ")", x -> number(x.end(n)), NO);
        }
        Consumer<LandRun> wide = x -> {
            world.accept(x);
            for (int i = 0; i < 9; i++) {
                x.feed(0x20202020, 0x20202020, 0x20202020, 0x20202020, 0x20202020);
            }
            x.end(181);
        };
        refused(wide, "feed at 181", x -> x.feed(0x41414141, 0x41414141, 0x41414141, 0x41414141, 0x41414141), NONE);
    }

    private static void landAndRunCalls(Consumer<LandRun> world) {
        int[][] wrong = {
            {-1, 1, 1}, {64, 1, 1}, {MIN, 1, 1}, {MAX, 1, 1}, {63, -1, 1}, {63, 100, 1}, {63, MIN, 1}, {63, MAX, 1},
            {63, 1, -1}, {63, 1, 4}, {63, 1, MIN}, {63, 1, MAX},
        };
        for (int[] w : wrong) {
            refused(world, "land(" + w[0] + ", " + w[1] + ", " + w[2] + ")", x -> number(x.land(w[0], w[1], w[2])), NO);
        }
        for (int n : new int[] {MIN, -1, 0, 1001, MAX}) {
            refused(world, "run(" + n + ")", x -> x.run(n), NONE);
        }
    }

    /** "A call that throws changes nothing." */
    private static void throwingCalls(Consumer<LandRun> world) {
        int[][] wrong = {{-1, 0}, {4, 0}, {30, 0}, {MIN, 0}, {MAX, 0}, {0, -1}, {0, 6}, {0, MIN}, {0, MAX}, {4, 6}};
        for (int[] w : wrong) {
            refused(world, "runner(" + w[0] + ", " + w[1] + ")", x -> Told.runner(x, w[0], w[1]), Told.THROWN);
        }
    }

    private static void personCalls(Consumer<LandRun> world) {
        int[][] onLine = {
            {-1, 1, 1}, {8, 1, 1}, {MIN, 1, 1}, {MAX, 1, 1}, {0, 0, 1}, {0, 10, 1}, {0, MIN, 1}, {0, MAX, 1},
            {0, 1, -1}, {0, 1, 121}, {0, 1, MIN}, {0, 1, MAX},
        };
        for (int[] w : onLine) {
            String what = "person(" + w[0] + ", false, " + w[1] + ", " + w[2] + ")";
            refusedTape(world, what, x -> x.person(w[0], false, w[1], w[2]), NONE, 9, 0);
        }
        for (int from : new int[] {-1, 64, MIN, MAX}) {
            refusedTape(world, "person(" + from + ", true, 1, 1)", x -> x.person(from, true, 1, 1), NONE, 9, 0);
        }
        int[][] known = {{64}, {255}, {9, 0, 9}, {0, 1, 2, 3, 4, 5, 6, 7, 8, 9, 10, 11, 12}};
        for (int[] bytes : known) {
            refusedTape(world, "person with " + bytes.length + " bytes", x -> x.person(0, false, 1, 1), NONE, bytes);
        }
    }

    /** A law with a FAULT: the LAW and its RULES stay; that fault() tells it is looked at elsewhere. */
    private static void lawCalls(Consumer<LandRun> world) {
        String[] texts = {"age 60;#", "age 60;age", "age 60;age 61;", "age 60;proof 10;", "age 60"};
        int[] answers = {-8, -8, -8, -14, -7};
        for (int i = 0; i < texts.length; i++) {
            LandRun x = new LandRun();
            LandRun y = new LandRun();
            world.accept(x);
            world.accept(y);
            x.end(0);
            y.end(0);
            CHECK.due("law of " + texts[i], Check.law(x, texts[i]), answers[i]);
            same("law of " + texts[i] + ", then ", Told.now(x), Told.now(y));
        }
    }

    private static void courtCalls(Consumer<LandRun> world) {
        for (int n : new int[] {MIN, -1, 995, 999, 1000, MAX}) {
            refused(world, "wait(" + n + ")", x -> number(x.wait(n)), NO);
        }
        int[][] files = {{-1, 1}, {4, 1}, {30, 1}, {MIN, 1}, {MAX, 1}, {0, -1}, {0, 64}, {0, MIN}, {0, MAX}, {0, 9},
            {2, 63}};
        for (int[] w : files) {
            refused(world, "file(" + w[0] + ", " + w[1] + ")", x -> x.file(w[0], w[1]), NONE);
        }
        int[][] witnesses = {
            {-1, 1, 2}, {3, 1, 2}, {60, 1, 2}, {MIN, 1, 2}, {MAX, 1, 2}, {0, -1, 2}, {0, MIN, 2}, {0, 1, 10000},
            {0, 1, MAX}, {0, 2, 1}, {0, 10000, 10000}, {0, -1, -1}, {0, MAX, MAX}, {0, MAX, MIN}, {0, 9999, 9998},
        };
        for (int[] w : witnesses) {
            String what = "witness(" + w[0] + ", " + w[1] + ", " + w[2] + ")";
            refused(world, what, x -> x.witness(w[0], w[1], w[2]), NONE);
        }
    }

    private static void lotsAndBidsCalls(Consumer<LandRun> world) {
        int[][] orders = {{4}, {255}, {0, 0}, {0, 1, 2, 3, 4}, {1, 2, 3, 0, 1}};
        for (int[] order : orders) {
            refusedTape(world, "lots of " + order.length, LandRun::lots, NONE, order);
        }
        int[][] pence = {{}, {1}, {1, 2, 3}};
        for (int[] bytes : pence) {
            refusedTape(world, "bid(0) of " + bytes.length, x -> number(x.bid(0)), NO, bytes);
        }
        refusedTape(world, "bid(3) of one byte", x -> number(x.bid(3)), NO, 1);
        for (int p : new int[] {MIN, -1, 4, 30, MAX}) {
            refusedTape(world, "bid(" + p + ")", x -> number(x.bid(p)), NO, 200, 201);
            refusedTape(world, "bid(" + p + ") of no byte", x -> number(x.bid(p)), NO);
        }
    }

    private static void askingCalls(Consumer<LandRun> world) {
        for (int n : new int[] {MIN, -1, 64, MAX}) {
            refused(world, "staked(" + n + ")", x -> x.staked(n), NONE);
            refused(world, "judge(" + n + ", 5)", x -> x.judge(n, 5), NONE);
            refused(world, "doubt(" + n + ", 5)", x -> x.doubt(n, 5), NONE);
            refused(world, "drawn(" + n + ")", x -> x.drawn(n), NONE);
            refused(world, "bought(" + n + ")", x -> x.bought(n), NONE);
            refused(world, "count(" + n + ")", x -> x.count(n), NONE);
            refused(world, "span(" + n + ", 5, 0)", x -> x.span(n, 5, 0), NONE);
            refused(world, "span(0, 5, " + n + ")", x -> x.span(0, 5, n), NONE);
        }
        refused(world, "span(0, -1, 0)", x -> x.span(0, -1, 0), NONE);
        refused(world, "judge(9, -1)", x -> x.judge(9, -1), NONE);
        refused(world, "doubt(9, -1)", x -> x.doubt(9, -1), NONE);
    }

    private static void tooLateForTheRun() {
        refused(RefusedTest::running, "land in the run", x -> number(x.land(9, 1, 0)), NO);
        refusedTape(RefusedTest::running, "person in the run", x -> x.person(0, false, 1, 1), NONE, 9);
    }

    private static void fullWorlds() {
        Consumer<LandRun> thirty = x -> {
            for (int p = 0; p < 30; p++) {
                Check.lineman(x, 0, 1, p, p);
            }
        };
        refusedTape(thirty, "the 31st of PEOPLE", x -> x.person(0, false, 1, 1), NONE, 9);
        Consumer<LandRun> sixty = x -> {
            Check.lineman(x, 0, 1, 1, 9);
            for (int q = 0; q < 60; q++) {
                x.file(0, q);
            }
        };
        refused(sixty, "the 61st CLAIM", x -> x.file(0, 60), NONE);
        Consumer<LandRun> twoHundred = x -> {
            Check.lineman(x, 0, 1, 1, 9);
            x.file(0, 9);
            for (int i = 0; i < 200; i++) {
                x.witness(0, 0, i);
            }
        };
        refused(twoHundred, "the 201st WITNESS", x -> x.witness(0, 0, 0), NONE);
        Consumer<LandRun> lastDay = x -> {
            opening(x);
            x.wait(994);
        };
        refused(lastDay, "wait(1) on the last DAY", x -> number(x.wait(1)), NO);
        refused(lastDay, "wait(999) on the last DAY", x -> number(x.wait(999)), NO);
    }
}
