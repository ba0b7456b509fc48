/** Promises 4 and 5 at their edges: land and person. */
public final class LandEdgeTest {
    private static final Check CHECK = new Check("LandEdgeTest");
    private static final int MIN = Integer.MIN_VALUE;
    private static final int MAX = Integer.MAX_VALUE;

    private LandEdgeTest() {
    }

    public static void main(String[] args) {
        quarters0To63();
        worth0To99();
        rough0To3();
        landStaysWhereRefused();
        landIsToldAnew();
        landUpToTheRun();
        rows0To7();
        hidingQuarters0To63();
        pace1To9();
        age0To120();
        knownQuarters0To63();
        upToTwelveKnown();
        eachKnownOnce();
        upToThirtyPeople();
        personUpToTheRun();
        tapeIsEmptyThen();
        CHECK.finish();
    }

    private static int worthOf(LandRun x, int q) {
        int p = Check.lineman(x, 0, 1, 1, q);
        return Check.lots(x, p);
    }

    private static void quarters0To63() {
        LandRun x = new LandRun();
        CHECK.yes("land(0)", x.land(0, 11, 0));
        CHECK.yes("land(63)", x.land(63, 22, 0));
        for (int q : new int[] {-1, 64, MIN, MAX}) {
            CHECK.no("land(" + q + ")", x.land(q, 33, 0));
        }
        CHECK.due("WORTH of 0", worthOf(x, 0), 11);
        CHECK.due("WORTH of 63", worthOf(x, 63), 22);
        CHECK.due("WORTH of 1", worthOf(x, 1), 0);
        CHECK.due("WORTH of 62", worthOf(x, 62), 0);
    }

    private static void worth0To99() {
        LandRun x = new LandRun();
        int p = Check.lineman(x, 0, 1, 1, 9);
        CHECK.yes("WORTH 99", x.land(9, 99, 0));
        CHECK.due("is 99", Check.lots(x, p), 99);
        for (int worth : new int[] {100, -1, MIN, MAX}) {
            CHECK.no("WORTH " + worth, x.land(9, worth, 0));
            CHECK.due("stays 99", Check.lots(x, p), 99);
        }
        CHECK.yes("WORTH 0", x.land(9, 0, 0));
        CHECK.due("is 0", Check.lots(x, p), 0);
    }

    private static int minutesInto(int rough, int pace) {
        LandRun x = new LandRun();
        CHECK.yes("ROUGH " + rough, x.land(0, 1, rough));
        Check.lineman(x, 0, pace, 1, 0);
        x.run(40);
        return x.runner(0, 3);
    }

    /** "in PACE times 1 + ROUGH of it MINUTES" */
    private static void rough0To3() {
        for (int rough = 0; rough <= 3; rough++) {
            CHECK.due("PACE 1 into ROUGH " + rough, minutesInto(rough, 1), 1 + rough);
            CHECK.due("PACE 9 into ROUGH " + rough, minutesInto(rough, 9), 9 * (1 + rough));
        }
        LandRun x = new LandRun();
        x.land(0, 1, 2);
        for (int rough : new int[] {4, -1, MIN, MAX}) {
            CHECK.no("ROUGH " + rough, x.land(0, 1, rough));
        }
        Check.lineman(x, 0, 1, 1, 0);
        x.run(9);
        CHECK.due("it stays 2", x.runner(0, 3), 3);
    }

    /** One thing that is not as told: neither is taken. */
    private static void landStaysWhereRefused() {
        LandRun x = new LandRun();
        x.land(0, 7, 2);
        CHECK.no("another WORTH with a wrong ROUGH", x.land(0, 8, 4));
        CHECK.no("another ROUGH with a wrong WORTH", x.land(0, 100, 3));
        CHECK.due("WORTH", worthOf(x, 0), 7);
        x.run(3);
        CHECK.due("MINUTE of the stake", x.runner(0, 3), 3);
    }

    private static void landIsToldAnew() {
        LandRun x = new LandRun();
        x.land(0, 7, 3);
        CHECK.yes("anew", x.land(0, 6, 1));
        CHECK.due("WORTH", worthOf(x, 0), 6);
        x.run(3);
        CHECK.due("MINUTE of the stake", x.runner(0, 3), 2);
    }

    /** "false: .. or THE RUN has begun": it has with its first MINUTE, not with a run() that is refused. */
    private static void landUpToTheRun() {
        LandRun x = new LandRun();
        x.run(0);
        x.run(1001);
        CHECK.yes("ahead of the run", x.land(5, 5, 0));
        x.run(1);
        CHECK.no("in MINUTE 1", x.land(5, 6, 0));
        x.run(1000);
        CHECK.no("in MINUTE 1001", x.land(5, 6, 0));
        LandRun y = new LandRun();
        int p = Check.lineman(y, 0, 1, 1, 5);
        y.land(5, 5, 0);
        y.run(1);
        y.land(5, 6, 0);
        CHECK.due("the WORTH stays", Check.lots(y, p), 5);
    }

    private static void rows0To7() {
        LandRun x = new LandRun();
        int refused = 0;
        for (int row : new int[] {-1, 8, 63, MIN, MAX}) {
            CHECK.due("row " + row, Check.lineman(x, row, 1, 1, 5), LandRun.NONE);
            refused++;
        }
        CHECK.due("nobody of " + refused, x.count(1), 0);
        CHECK.due("row 0", Check.lineman(x, 0, 1, 1, 7), 0);
        CHECK.due("row 7", Check.lineman(x, 7, 1, 1, 56), 1);
        for (int p = 0; p < 2; p++) {
            CHECK.due("on the line", x.runner(p, 0), LandRun.NONE);
            CHECK.due("did not hide", x.runner(p, 5), 0);
        }
        x.run(1);
        CHECK.due("beside QUARTER 0", x.runner(0, 0), 0);
        CHECK.due("beside QUARTER 56", x.runner(1, 0), 56);
        CHECK.due("which is staked", x.staked(56), 1);
    }

    private static void hidingQuarters0To63() {
        LandRun x = new LandRun();
        for (int q : new int[] {-1, 64, MIN, MAX}) {
            CHECK.due("hid in " + q, Check.hidden(x, q, 1, 1, 5), LandRun.NONE);
        }
        CHECK.due("nobody", x.count(1), 0);
        int[] edges = {0, 7, 8, 55, 56, 63};
        for (int p = 0; p < edges.length; p++) {
            CHECK.due("hid in " + edges[p], Check.hidden(x, edges[p], 1, 1, edges[p]), p);
            CHECK.due("is there", x.runner(p, 0), edges[p]);
            CHECK.due("did hide", x.runner(p, 5), 1);
        }
        x.run(1);
        for (int p = 0; p < edges.length; p++) {
            CHECK.due("staked by who hid there", x.staked(edges[p]), p);
        }
    }

    private static void pace1To9() {
        LandRun x = new LandRun();
        for (int pace : new int[] {0, 10, -1, MIN, MAX}) {
            CHECK.due("PACE " + pace, Check.lineman(x, 0, pace, 1, 0), LandRun.NONE);
        }
        CHECK.due("PACE 1", Check.lineman(x, 0, 1, 1, 0), 0);
        CHECK.due("PACE 9", Check.lineman(x, 1, 9, 1, 8), 1);
        x.run(8);
        CHECK.due("with PACE 1 in MINUTE 1", x.runner(0, 3), 1);
        CHECK.due("with PACE 9 not in MINUTE 8", x.runner(1, 2), LandRun.NONE);
        x.run(1);
        CHECK.due("but in MINUTE 9", x.runner(1, 3), 9);
    }

    private static void age0To120() {
        LandRun x = new LandRun();
        for (int age : new int[] {-1, 121, MIN, MAX}) {
            CHECK.due("AGE " + age, Check.lineman(x, 0, 1, age, 5), LandRun.NONE);
        }
        CHECK.due("AGE 0", Check.lineman(x, 0, 1, 0, 5), 0);
        CHECK.due("AGE 120", Check.lineman(x, 0, 1, 120, 5), 1);
        x.file(0, 1);
        x.file(1, 2);
        Check.law(x, "age 120;");
        CHECK.due("0 is below 120", x.span(0, 0, 3), 0);
        CHECK.due("120 is 120 at least", x.span(1, 0, 3), 1);
        Check.law(x, "age 0;");
        CHECK.due("0 is 0 at least", x.span(0, 0, 3), 1);
    }

    private static void knownQuarters0To63() {
        LandRun x = new LandRun();
        for (int q : new int[] {64, 127, 128, 192, 255}) {
            CHECK.due("KNOWS of " + q, Check.lineman(x, 0, 1, 1, q), LandRun.NONE);
            CHECK.due("KNOWS of 5 and " + q, Check.lineman(x, 0, 1, 1, 5, q), LandRun.NONE);
        }
        CHECK.due("nobody", x.count(1), 0);
        CHECK.due("KNOWS of 0 and 63", Check.lineman(x, 0, 1, 1, 63, 0), 0);
        x.land(63, 1, 0);
        Check.lots(x, 0);
        CHECK.due("takes 63", x.drawn(0), 63);
        x.land(63, 0, 0);
        Check.lots(x, 0);
        CHECK.due("takes 0", x.drawn(0), 0);
    }

    /** "QUARTERS, 12 at most" */
    private static void upToTwelveKnown() {
        LandRun x = new LandRun();
        int[] twelve = {30, 31, 32, 33, 34, 35, 36, 37, 38, 39, 40, 41};
        int[] thirteen = {30, 31, 32, 33, 34, 35, 36, 37, 38, 39, 40, 41, 42};
        CHECK.due("thirteen", Check.lineman(x, 0, 1, 1, thirteen), LandRun.NONE);
        CHECK.due("two hundred", Check.lineman(x, 0, 1, 1, new int[200]), LandRun.NONE);
        CHECK.due("nobody", x.count(1), 0);
        CHECK.due("twelve", Check.lineman(x, 0, 1, 1, twelve), 0);
        CHECK.due("none", Check.lineman(x, 0, 1, 1), 1);
        x.land(41, 9, 0);
        CHECK.due("the twelfth is known", Check.lots(x, 0), 9);
        CHECK.due("nothing is known", Check.lots(x, 1), 0);
        CHECK.due("nothing is taken", x.drawn(1), LandRun.NONE);
    }

    /** "(each once)" */
    private static void eachKnownOnce() {
        LandRun x = new LandRun();
        int[][] wrong = {{0, 0}, {63, 63}, {5, 6, 5}, {1, 2, 3, 4, 5, 6, 7, 8, 9, 10, 11, 1},
            {1, 2, 3, 4, 5, 6, 7, 8, 9, 10, 11, 11}};
        for (int[] known : wrong) {
            CHECK.due("one told twice", Check.lineman(x, 0, 1, 1, known), LandRun.NONE);
        }
        CHECK.due("nobody", x.count(1), 0);
        CHECK.due("like ones that are not the same", Check.lineman(x, 0, 1, 1, 0, 32, 1, 33, 31, 63), 0);
    }

    private static void upToThirtyPeople() {
        LandRun x = new LandRun();
        for (int p = 0; p < 30; p++) {
            CHECK.due("one more", Check.lineman(x, 0, 1, 1, p), p);
        }
        CHECK.due("the 31st on the line", Check.lineman(x, 0, 1, 1, 40), LandRun.NONE);
        CHECK.due("the 31st who hides", Check.hidden(x, 0, 1, 1, 40), LandRun.NONE);
        CHECK.due("people", x.count(1), 30);
        CHECK.runnerThrows(x, 30, 0);
        CHECK.due("the 30th can file", x.file(29, 0), 0);
        CHECK.due("the 31st can't", x.file(30, 0), LandRun.NONE);
        x.run(30);
        CHECK.due("the 30th stakes", x.runner(29, 2), 29);
    }

    private static void personUpToTheRun() {
        LandRun x = new LandRun();
        x.run(0);
        CHECK.due("ahead of the run", Check.lineman(x, 0, 1, 1, 5), 0);
        x.run(1);
        CHECK.due("in the run", Check.lineman(x, 0, 1, 1, 5), LandRun.NONE);
        CHECK.due("in the run, hidden", Check.hidden(x, 5, 1, 1, 5), LandRun.NONE);
        CHECK.due("people", x.count(1), 1);
    }

    /** "the tape's bytes (empty then ..)": whether one comes or is refused. */
    private static void tapeIsEmptyThen() {
        LandRun x = new LandRun();
        Check.lineman(x, 0, 1, 1, 1, 2, 3);
        CHECK.due("bytes behind one more", x.count(7), 0);
        CHECK.due("one who KNOWS of nothing then", x.person(0, false, 1, 1), 1);
        Check.lineman(x, 0, 0, 1, 1, 2, 3);
        CHECK.due("bytes behind a wrong PACE", x.count(7), 0);
        Check.lineman(x, 0, 1, 1, 1, 1);
        CHECK.due("bytes behind one told twice", x.count(7), 0);
        x.run(1);
        Check.lineman(x, 0, 1, 1, 1, 2, 3);
        CHECK.due("bytes behind one who comes too late", x.count(7), 0);
    }
}
