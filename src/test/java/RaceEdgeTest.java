/** Promises 6, 7 and 8 at their edges, with THE RUN and CHOOSE: run, runner and staked. */
public final class RaceEdgeTest {
    private static final Check CHECK = new Check("RaceEdgeTest");
    private static final int NONE = LandRun.NONE;
    private static final int MIN = Integer.MIN_VALUE;
    private static final int MAX = Integer.MAX_VALUE;

    private RaceEdgeTest() {
    }

    public static void main(String[] args) {
        minutes1To1000();
        anotherNumberOfMinutes();
        noFurtherThan9999();
        minuteZeroComesFirst();
        nobodyRuns();
        minuteOfArrival();
        splitRunsAreOneRun();
        choosesGreatestWorth();
        choosesFewestRowsAndColumns();
        choosesLeastNumber();
        choosesAnewFromWhereOneIs();
        withNoneOneIsDone();
        isInItAlready();
        isInItAndItIsStaked();
        leavesWhereOneHid();
        hidingIsNotSeeing();
        byNumberInMinuteZero();
        byNumberInALaterMinute();
        stakesOnlyWhatOneGoesFor();
        seesEachOnce();
        twelveGoalsInVain();
        doneOnesStay();
        rowFirstThenColumn();
        rowsDoNotWrapAround();
        roughOfTheQuarterAhead();
        runnerOfNobody();
        runnerOfNothingSuch();
        stakedOfNoQuarter();
        CHECK.finish();
    }

    /** "n MINUTES (1 to 1000 ..): MINUTE then" */
    private static void minutes1To1000() {
        LandRun x = new LandRun();
        CHECK.due("run(1)", x.run(1), 1);
        CHECK.due("run(1000)", x.run(1000), 1001);
        CHECK.due("run(999)", x.run(999), 2000);
        CHECK.due("MINUTE", x.count(0), 2000);
        CHECK.due("run(1000) first", new LandRun().run(1000), 1000);
    }

    /** "NONE: another n", ahead of the run, in it and at its end. */
    private static void anotherNumberOfMinutes() {
        int[] wrong = {0, -1, 1001, MIN, MAX};
        LandRun x = new LandRun();
        Check.hidden(x, 5, 1, 1, 5);
        for (int n : wrong) {
            CHECK.due("run(" + n + ") first", x.run(n), NONE);
            CHECK.due("nothing is staked", x.count(2), 0);
            CHECK.yes("not begun", x.land(9, 1, 1));
        }
        x.run(5);
        for (int n : wrong) {
            CHECK.due("run(" + n + ") in the run", x.run(n), NONE);
            CHECK.due("MINUTE", x.count(0), 5);
        }
        for (int i = 0; i < 10; i++) {
            x.run(1000);
        }
        for (int n : wrong) {
            CHECK.due("run(" + n + ") at the end", x.run(n), NONE);
            CHECK.due("MINUTE", x.count(0), 9999);
        }
    }

    /** "no further than 9999" */
    private static void noFurtherThan9999() {
        LandRun x = new LandRun();
        for (int i = 0; i < 9; i++) {
            x.run(1000);
        }
        CHECK.due("run(999) at 9000", x.run(999), 9999);
        CHECK.due("run(1) at 9999", x.run(1), 9999);
        CHECK.due("run(1000) at 9999", x.run(1000), 9999);
        CHECK.due("MINUTE", x.count(0), 9999);
        LandRun y = new LandRun();
        for (int i = 0; i < 9; i++) {
            y.run(1000);
        }
        CHECK.due("run(998) at 9000", y.run(998), 9998);
        CHECK.due("run(1) at 9998", y.run(1), 9999);
        LandRun z = new LandRun();
        for (int i = 0; i < 9; i++) {
            z.run(1000);
        }
        CHECK.due("run(1000) at 9000", z.run(1000), 9999);
    }

    /** "(MINUTE 0 first, if it has not begun)" */
    private static void minuteZeroComesFirst() {
        LandRun x = new LandRun();
        Check.hidden(x, 5, 9, 1, 5);
        Check.lineman(x, 0, 9, 1, 0);
        CHECK.due("goes for nothing", x.runner(1, 1), NONE);
        x.run(1);
        CHECK.due("staked in MINUTE 0", x.runner(0, 3), 0);
        CHECK.due("goes for 0", x.runner(1, 1), 0);
        CHECK.due("from the line", x.runner(1, 0), NONE);
        x.run(8);
        CHECK.due("MINUTE 0 comes once: nine MINUTES from it", x.runner(1, 3), 9);
    }

    private static void nobodyRuns() {
        LandRun x = new LandRun();
        CHECK.due("run(3)", x.run(3), 3);
        CHECK.due("stakes", x.count(2), 0);
        CHECK.no("it has begun", x.land(0, 0, 0));
    }

    private static void minuteOfArrival() {
        LandRun x = new LandRun();
        x.land(0, 0, 3);
        Check.lineman(x, 0, 9, 1, 0);
        x.run(35);
        CHECK.due("a MINUTE ahead", x.runner(0, 0), NONE);
        CHECK.due("not staked", x.staked(0), NONE);
        x.run(1);
        CHECK.due("there", x.runner(0, 0), 0);
        CHECK.due("staked", x.staked(0), 0);
        CHECK.due("its MINUTE", x.runner(0, 3), 36);
        CHECK.due("one runs for nothing more", x.runner(0, 1), NONE);
    }

    private static LandRun busyLand() {
        LandRun x = new LandRun();
        for (int q = 0; q < 64; q++) {
            x.land(q, q * 7 % 10, q * 5 % 4);
        }
        for (int p = 0; p < 12; p++) {
            int[] known = {p + 1, 20 + 2 * p, 60 - p, 63};
            Check.tape(x, known);
            x.person(p % 3 == 0 ? p * 5 : p % 8, p % 3 == 0, 1 + p % 9, 20);
        }
        return x;
    }

    /** A run in one call, and MINUTE by MINUTE. */
    private static void splitRunsAreOneRun() {
        LandRun x = busyLand();
        LandRun y = busyLand();
        x.run(200);
        for (int minute = 1; minute <= 200; minute++) {
            y.run(1);
        }
        for (int p = 0; p < 12; p++) {
            for (int what = 0; what <= 5; what++) {
                CHECK.due("runner(" + p + ", " + what + ")", x.runner(p, what), y.runner(p, what));
            }
        }
        CHECK.due("stakes", x.count(2), y.count(2));
    }

    private static int goalOf(LandRun x, int p) {
        x.run(1);
        return x.runner(p, 1);
    }

    private static void choosesGreatestWorth() {
        LandRun x = new LandRun();
        x.land(63, 99, 3);
        x.land(1, 98, 0);
        Check.lineman(x, 0, 9, 1, 1, 63, 2);
        CHECK.due("99 though it is far and rough", goalOf(x, 0), 63);
        LandRun y = new LandRun();
        y.land(63, 1, 0);
        Check.lineman(y, 0, 9, 1, 0, 63);
        CHECK.due("1 is more than 0", goalOf(y, 0), 63);
        LandRun z = new LandRun();
        z.land(0, 1, 0);
        Check.lineman(z, 7, 9, 1, 56, 0);
        CHECK.due("QUARTER 0 is like the others", goalOf(z, 0), 0);
    }

    private static void choosesFewestRowsAndColumns() {
        LandRun x = new LandRun();
        // from the line in row 3: 25 is 2 away, 16 is 2, 17 and 26 are 3
        Check.lineman(x, 3, 9, 1, 17, 25);
        Check.lineman(x, 3, 9, 1, 26, 16);
        Check.lineman(x, 3, 9, 1, 40, 25);
        // in quarter 36: 28 and 44 are beside it in the column, 35 and 37 in the row, 27 is 2 away, 52 too
        Check.hidden(x, 36, 9, 1, 27, 44);
        Check.hidden(x, 36, 9, 1, 27, 37);
        Check.hidden(x, 36, 9, 1, 20, 35);
        Check.hidden(x, 36, 9, 1, 20, 44);
        x.run(1);
        int[] due = {25, 16, 25, 44, 37, 35, 44};
        for (int p = 0; p < due.length; p++) {
            CHECK.due("goal of " + p, x.runner(p, 1), due[p]);
        }
    }

    private static void choosesLeastNumber() {
        LandRun x = new LandRun();
        // all four are beside quarter 36
        Check.hidden(x, 36, 9, 1, 44, 37, 35, 28);
        Check.hidden(x, 36, 9, 1, 44, 37, 35);
        Check.hidden(x, 36, 9, 1, 44, 37);
        Check.lineman(x, 3, 9, 1, 33, 16, 25);
        x.run(1);
        int[] due = {28, 35, 37, 16};
        for (int p = 0; p < due.length; p++) {
            CHECK.due("goal of " + p, x.runner(p, 1), due[p]);
        }
    }

    /** "if that was what one goes for, one CHOOSES anew": the way is told from there, not from the line. */
    private static void choosesAnewFromWhereOneIs() {
        LandRun x = new LandRun();
        x.land(5, 9, 0);
        x.land(0, 3, 0);
        x.land(6, 3, 0);
        Check.hidden(x, 5, 1, 1, 5);
        Check.lineman(x, 0, 1, 1, 0, 6, 5);
        x.run(5);
        CHECK.due("still goes for 5", x.runner(1, 1), 5);
        x.run(1);
        CHECK.due("at 5", x.runner(1, 0), 5);
        CHECK.due("SEEN", x.runner(1, 4), 1);
        CHECK.due("goes for 6, which is nearer now", x.runner(1, 1), 6);
        x.run(1);
        CHECK.due("stakes 6", x.runner(1, 2), 6);
        CHECK.due("in MINUTE 7", x.runner(1, 3), 7);
    }

    /** "with none one is done" */
    private static void withNoneOneIsDone() {
        LandRun x = new LandRun();
        Check.hidden(x, 1, 1, 1, 1);
        Check.lineman(x, 0, 1, 1);
        Check.hidden(x, 9, 1, 1);
        Check.lineman(x, 0, 1, 1, 1);
        x.run(2);
        for (int p = 0; p < 4; p++) {
            CHECK.due("done: " + p, x.runner(p, 1), NONE);
        }
        CHECK.due("who KNOWS of nothing stays on the line", x.runner(1, 0), NONE);
        CHECK.due("or where one hid", x.runner(2, 0), 9);
        CHECK.due("and who came too late stays there", x.runner(3, 0), 1);
        for (int p = 1; p < 4; p++) {
            CHECK.due("no stake of " + p, x.runner(p, 2), NONE);
            CHECK.due("no MINUTE of " + p, x.runner(p, 3), NONE);
        }
    }

    /** "If one is in it: it is as if one came there now" */
    private static void isInItAlready() {
        LandRun x = new LandRun();
        x.land(63, 0, 3);
        Check.hidden(x, 63, 9, 1, 63, 0);
        Check.hidden(x, 0, 9, 1, 63, 0);
        x.run(1);
        CHECK.due("63 is staked", x.staked(63), 0);
        CHECK.due("in MINUTE 0 though it is rough", x.runner(0, 3), 0);
        CHECK.due("0 is staked", x.staked(0), 1);
        CHECK.due("a staker has SEEN nothing STAKED", x.runner(0, 4), 0);
    }

    /** "(with it SEEN, if it is STAKED, one CHOOSES again)" */
    private static void isInItAndItIsStaked() {
        LandRun x = new LandRun();
        x.land(8, 5, 0);
        x.land(9, 4, 0);
        for (int p = 0; p < 3; p++) {
            Check.hidden(x, 8, 2, 1, 9, 8);
        }
        Check.hidden(x, 8, 2, 1, 8);
        x.run(1);
        CHECK.due("the first one's", x.staked(8), 0);
        for (int p = 1; p < 3; p++) {
            CHECK.due("SEEN by " + p, x.runner(p, 4), 1);
            CHECK.due("goal of " + p, x.runner(p, 1), 9);
        }
        CHECK.due("SEEN by who KNOWS of that alone", x.runner(3, 4), 1);
        CHECK.due("who is done", x.runner(3, 1), NONE);
        x.run(1);
        CHECK.due("9 goes to the next one", x.staked(9), 1);
        CHECK.due("in MINUTE 2", x.runner(1, 3), 2);
        CHECK.due("and is SEEN by the third", x.runner(2, 4), 2);
        CHECK.due("who is done there", x.runner(2, 0), 9);
        CHECK.due("without a goal", x.runner(2, 1), NONE);
    }

    private static void leavesWhereOneHid() {
        LandRun x = new LandRun();
        x.land(8, 4, 0);
        x.land(9, 5, 0);
        Check.hidden(x, 8, 1, 1, 8, 9);
        Check.hidden(x, 9, 1, 1, 9);
        x.run(1);
        CHECK.due("8 is not staked by who left it", x.staked(8), NONE);
        CHECK.due("turns back", x.runner(0, 1), 8);
        x.run(1);
        CHECK.due("and stakes it in MINUTE 2", x.runner(0, 3), 2);
    }

    /** Those "who come into a QUARTER then, see it": one who hid there has not come. */
    private static void hidingIsNotSeeing() {
        LandRun x = new LandRun();
        x.land(20, 9, 0);
        Check.hidden(x, 8, 1, 1, 8);
        Check.hidden(x, 8, 9, 1, 8, 20);
        x.run(1);
        CHECK.due("8 is staked", x.staked(8), 0);
        CHECK.due("by another one's eyes not SEEN", x.runner(1, 4), 0);
    }

    private static void byNumberInMinuteZero() {
        LandRun x = new LandRun();
        Check.hidden(x, 8, 9, 1, 8);
        Check.hidden(x, 8, 1, 1, 8);
        x.run(1);
        CHECK.due("the lesser number, not the lesser PACE", x.staked(8), 0);
    }

    /** Two come in one MINUTE: the lesser number stakes, and a lesser one who goes on sees nothing yet. */
    private static void byNumberInALaterMinute() {
        LandRun x = new LandRun();
        Check.lineman(x, 0, 3, 1, 1);
        Check.lineman(x, 0, 2, 1, 0);
        Check.hidden(x, 8, 2, 1, 0);
        Check.hidden(x, 10, 6, 1, 2);
        Check.hidden(x, 3, 6, 1, 2);
        Check.lineman(x, 0, 2, 1, 2);
        x.run(2);
        CHECK.due("0 is of the lesser number", x.staked(0), 1);
        CHECK.due("the other has SEEN it", x.runner(2, 4), 1);
        x.run(1);
        CHECK.due("and so has who comes a MINUTE later", x.runner(0, 4), 1);
        x.run(3);
        CHECK.due("2 is of the least number of three", x.staked(2), 3);
        CHECK.due("the next has SEEN it", x.runner(4, 4), 1);
        CHECK.due("and the last, with 0 on the way", x.runner(5, 4), 2);
        LandRun y = new LandRun();
        Check.lineman(y, 0, 1, 1, 2);
        Check.lineman(y, 0, 1, 1, 0);
        Check.lineman(y, 0, 1, 1, 3);
        y.run(1);
        CHECK.due("the lesser number came ahead of the stake", y.runner(0, 4), 0);
        CHECK.due("the greater one behind it", y.runner(2, 4), 1);
    }

    private static void stakesOnlyWhatOneGoesFor() {
        LandRun x = new LandRun();
        x.land(3, 1, 0);
        Check.lineman(x, 0, 1, 1, 0, 1, 2, 3);
        x.run(3);
        CHECK.due("stakes on the way", x.count(2), 0);
        CHECK.due("nothing is SEEN STAKED", x.runner(0, 4), 0);
        x.run(1);
        CHECK.due("stakes 3", x.staked(3), 0);
    }

    /** "how many QUARTERS one has SEEN STAKED": each counts once, known or not. */
    private static void seesEachOnce() {
        LandRun x = new LandRun();
        x.land(2, 9, 0);
        Check.hidden(x, 0, 1, 1, 0);
        Check.hidden(x, 1, 1, 1, 1);
        Check.hidden(x, 2, 1, 1, 2);
        Check.lineman(x, 0, 1, 1, 2, 8);
        int[] seen = {1, 2, 3, 3, 3, 3};
        for (int minute = 1; minute <= seen.length; minute++) {
            x.run(1);
            CHECK.due("SEEN in MINUTE " + minute, x.runner(3, 4), seen[minute - 1]);
        }
        CHECK.due("stakes 8", x.runner(3, 2), 8);
    }

    /** One KNOWS of twelve, each STAKED, from corner to corner: none is gone for twice. */
    private static void twelveGoalsInVain() {
        LandRun x = new LandRun();
        int[] known = {0, 63, 1, 62, 8, 55, 2, 61, 16, 47, 3, 60};
        for (int i = 0; i < known.length; i++) {
            x.land(known[i], 99 - i, 3);
            Check.hidden(x, known[i], 9, 1, known[i]);
        }
        int p = Check.lineman(x, 7, 9, 1, known);
        for (int i = 0; i < 9; i++) {
            x.run(1000);
        }
        CHECK.due("goal", x.runner(p, 1), NONE);
        CHECK.due("stake", x.runner(p, 2), NONE);
        CHECK.due("SEEN", x.runner(p, 4), 12);
        int place = x.runner(p, 0);
        x.run(999);
        CHECK.due("stays", x.runner(p, 0), place);
    }

    private static void doneOnesStay() {
        LandRun x = new LandRun();
        Check.lineman(x, 0, 1, 1, 0, 5);
        Check.lineman(x, 0, 3, 1, 1);
        x.run(1000);
        CHECK.due("where one STAKED", x.runner(0, 0), 0);
        CHECK.due("which one STAKED", x.runner(0, 2), 0);
        CHECK.due("in that MINUTE", x.runner(0, 3), 1);
        CHECK.due("one stakes once", x.staked(5), NONE);
        CHECK.due("one's own stake is not SEEN", x.runner(0, 4), 0);
        CHECK.due("by another it is", x.runner(1, 4), 1);
    }

    private static void goes(int from, int to, int... way) {
        LandRun x = new LandRun();
        Check.hidden(x, from, 1, 1, to);
        for (int i = 0; i < way.length; i++) {
            x.run(1);
            CHECK.due(from + " to " + to + ", MINUTE " + (i + 1), x.runner(0, 0), way[i]);
        }
        CHECK.due(from + " to " + to + " stakes in", x.runner(0, 3), way.length);
    }

    /** "goes along the row till the column is right, then along the column" */
    private static void rowFirstThenColumn() {
        goes(0, 18, 1, 2, 10, 18);
        goes(18, 0, 17, 16, 8, 0);
        goes(2, 16, 1, 0, 8, 16);
        goes(16, 2, 17, 18, 10, 2);
        goes(20, 36, 28, 36);
        goes(36, 20, 28, 20);
        goes(20, 22, 21, 22);
        goes(22, 20, 21, 20);
        goes(0, 63, 1, 2, 3, 4, 5, 6, 7, 15, 23, 31, 39, 47, 55, 63);
        goes(63, 0, 62, 61, 60, 59, 58, 57, 56, 48, 40, 32, 24, 16, 8, 0);
        goes(7, 56, 6, 5, 4, 3, 2, 1, 0, 8, 16, 24, 32, 40, 48, 56);
        LandRun x = new LandRun();
        Check.lineman(x, 7, 1, 1, 1);
        int[] way = {56, 57, 49, 41, 33, 25, 17, 9, 1};
        for (int q : way) {
            x.run(1);
            CHECK.due("from the line in row 7", x.runner(0, 0), q);
        }
    }

    /** QUARTER 7 and QUARTER 8 have numbers side by side, and are rows and columns apart. */
    private static void rowsDoNotWrapAround() {
        goes(7, 8, 6, 5, 4, 3, 2, 1, 0, 8);
        goes(8, 7, 9, 10, 11, 12, 13, 14, 15, 7);
        goes(56, 55, 57, 58, 59, 60, 61, 62, 63, 55);
        LandRun x = new LandRun();
        Check.hidden(x, 7, 9, 1, 8, 39);
        x.run(1);
        CHECK.due("39 is 4 away, 8 is 8", x.runner(0, 1), 39);
    }

    /** "into each next QUARTER in PACE times 1 + ROUGH of it": not of the one that is left. */
    private static void roughOfTheQuarterAhead() {
        LandRun x = new LandRun();
        x.land(8, 0, 3);
        x.land(9, 0, 1);
        x.land(10, 0, 2);
        Check.hidden(x, 8, 2, 1, 11);
        int[] arrivals = {4, 10, 12};
        int minute = 0;
        for (int i = 0; i < arrivals.length; i++) {
            x.run(arrivals[i] - minute - 1);
            CHECK.due("a MINUTE ahead of " + arrivals[i], x.runner(0, 0), 8 + i);
            x.run(1);
            CHECK.due("in MINUTE " + arrivals[i], x.runner(0, 0), 9 + i);
            minute = arrivals[i];
        }
        CHECK.due("staked in", x.runner(0, 3), 12);
    }

    /** "NoSuchElementException: no such one" */
    private static void runnerOfNobody() {
        LandRun x = new LandRun();
        CHECK.runnerThrows(x, 0, 0);
        Check.lineman(x, 0, 1, 1, 1);
        Check.lineman(x, 0, 1, 1, 1);
        for (int p : new int[] {-1, 2, 29, 30, MIN, MAX}) {
            for (int what = 0; what <= 5; what++) {
                CHECK.runnerThrows(x, p, what);
            }
        }
        CHECK.due("the first one", x.runner(0, 0), NONE);
        CHECK.due("the last one", x.runner(1, 0), NONE);
    }

    /** "or another what" */
    private static void runnerOfNothingSuch() {
        LandRun x = new LandRun();
        Check.hidden(x, 5, 1, 1, 5);
        x.run(1);
        for (int what : new int[] {-1, 6, MIN, MAX}) {
            CHECK.runnerThrows(x, 0, what);
            CHECK.runnerThrows(x, 1, what);
        }
        CHECK.due("what 0", x.runner(0, 0), 5);
        CHECK.due("what 5", x.runner(0, 5), 1);
        CHECK.due("MINUTE stays", x.count(0), 1);
    }

    /** "NONE: nobody, or no such one" */
    private static void stakedOfNoQuarter() {
        LandRun x = new LandRun();
        Check.hidden(x, 63, 1, 1, 63);
        Check.hidden(x, 0, 1, 1, 0);
        CHECK.due("staked(0) ahead of the run", x.staked(0), NONE);
        x.run(1);
        CHECK.due("staked(0)", x.staked(0), 1);
        CHECK.due("staked(63)", x.staked(63), 0);
        for (int q : new int[] {1, 62, -1, 64, MIN, MAX}) {
            CHECK.due("staked(" + q + ")", x.staked(q), NONE);
        }
    }
}
