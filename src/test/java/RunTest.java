/** Promises 4 to 8: land, person, run, runner and staked. */
public final class RunTest {
    private static final Check CHECK = new Check("RunTest");

    private RunTest() {
    }

    public static void main(String[] args) {
        landIsAsTold();
        personIsAsTold();
        minutes();
        runnersAreTold();
        choosesByWorthThenWayThenNumber();
        goesAlongTheRowFirst();
        roughLandIsSlow();
        lesserNumberComesFirst();
        seesOnTheWay();
        hiddenOnes();
        doneWithoutAnyQuarter();
        CHECK.finish();
    }

    private static void landIsAsTold() {
        LandRun x = new LandRun();
        CHECK.yes("least", x.land(0, 0, 0));
        CHECK.yes("most", x.land(63, 99, 3));
        CHECK.no("q -1", x.land(-1, 0, 0));
        CHECK.no("q 64", x.land(64, 0, 0));
        CHECK.no("worth -1", x.land(0, -1, 0));
        CHECK.no("worth 100", x.land(0, 100, 0));
        CHECK.no("rough -1", x.land(0, 0, -1));
        CHECK.no("rough 4", x.land(0, 0, 4));
        Check.lineman(x, 0, 1, 1, 63);
        CHECK.due("worth is kept", Check.lots(x, 0), 99);
        CHECK.yes("land anew", x.land(63, 7, 0));
        CHECK.due("worth anew", Check.lots(x, 0), 7);
        CHECK.no("wrong rough with another worth", x.land(63, 8, 4));
        CHECK.due("worth stays", Check.lots(x, 0), 7);
        CHECK.due("a wrong run does not begin", x.run(0), LandRun.NONE);
        CHECK.yes("land ahead of the run", x.land(63, 9, 0));
        x.run(1);
        CHECK.no("land in the run", x.land(63, 1, 0));
        CHECK.due("worth stays in the run", Check.lots(x, 0), 9);
    }

    private static void personIsAsTold() {
        LandRun x = new LandRun();
        CHECK.due("row -1", Check.lineman(x, -1, 1, 1, 1), LandRun.NONE);
        CHECK.due("row 8", Check.lineman(x, 8, 1, 1, 1), LandRun.NONE);
        CHECK.due("quarter -1", Check.hidden(x, -1, 1, 1, 1), LandRun.NONE);
        CHECK.due("quarter 64", Check.hidden(x, 64, 1, 1, 1), LandRun.NONE);
        CHECK.due("pace 0", Check.lineman(x, 0, 0, 1, 1), LandRun.NONE);
        CHECK.due("pace 10", Check.lineman(x, 0, 10, 1, 1), LandRun.NONE);
        CHECK.due("age -1", Check.lineman(x, 0, 1, -1, 1), LandRun.NONE);
        CHECK.due("age 121", Check.lineman(x, 0, 1, 121, 1), LandRun.NONE);
        CHECK.due("knows 64", Check.lineman(x, 0, 1, 1, 64), LandRun.NONE);
        CHECK.due("knows 255", Check.lineman(x, 0, 1, 1, 255), LandRun.NONE);
        CHECK.due("knows twice", Check.lineman(x, 0, 1, 1, 5, 6, 5), LandRun.NONE);
        CHECK.due("knows 13", Check.lineman(x, 0, 1, 1, 0, 1, 2, 3, 4, 5, 6, 7, 8, 9, 10, 11, 12), LandRun.NONE);
        CHECK.due("people", x.count(1), 0);
        CHECK.due("knows 12", Check.lineman(x, 7, 9, 120, 63, 1, 2, 3, 4, 5, 6, 7, 8, 9, 10, 0), 0);
        CHECK.due("knows nothing", Check.hidden(x, 63, 1, 0), 1);
        for (int p = 2; p < 30; p++) {
            CHECK.due("person " + p, Check.hidden(x, p, 1, 0), p);
        }
        CHECK.due("the 31st", Check.hidden(x, 1, 1, 0), LandRun.NONE);
        CHECK.due("people", x.count(1), 30);
        LandRun late = new LandRun();
        late.run(1);
        CHECK.due("a person in the run", Check.lineman(late, 0, 1, 1, 1), LandRun.NONE);
    }

    private static void minutes() {
        LandRun x = new LandRun();
        CHECK.due("run(0)", x.run(0), LandRun.NONE);
        CHECK.due("run(-1)", x.run(-1), LandRun.NONE);
        CHECK.due("run(1001)", x.run(1001), LandRun.NONE);
        CHECK.due("run(MAX)", x.run(Integer.MAX_VALUE), LandRun.NONE);
        for (int i = 1; i <= 9; i++) {
            CHECK.due("run(1000)", x.run(1000), 1000 * i);
        }
        CHECK.due("run(998)", x.run(998), 9998);
        CHECK.due("run no further", x.run(1000), 9999);
        CHECK.due("run at the end", x.run(1), 9999);
        CHECK.due("MINUTE", x.count(0), 9999);
    }

    private static void runnersAreTold() {
        LandRun x = new LandRun();
        Check.lineman(x, 2, 3, 40, 17);
        Check.hidden(x, 63, 1, 20, 0);
        int[] lineman = {-1, -1, -1, -1, 0, 0};
        int[] hidden = {63, -1, -1, -1, 0, 1};
        tells(x, 0, lineman);
        tells(x, 1, hidden);
        CHECK.runnerThrows(x, 2, 0);
        CHECK.runnerThrows(x, -1, 0);
        CHECK.runnerThrows(x, 0, 6);
        CHECK.runnerThrows(x, 0, -1);
        CHECK.runnerThrows(x, 30, 0);
        x.run(5);
        tells(x, 0, new int[] {16, 17, -1, -1, 0, 0});
        tells(x, 1, new int[] {58, 0, -1, -1, 0, 1});
        x.run(1);
        tells(x, 0, new int[] {17, -1, 17, 6, 0, 0});
        CHECK.due("staked(17)", x.staked(17), 0);
        CHECK.due("staked(16)", x.staked(16), LandRun.NONE);
        CHECK.due("staked(-1)", x.staked(-1), LandRun.NONE);
        CHECK.due("staked(64)", x.staked(64), LandRun.NONE);
        x.run(1);
        tells(x, 1, new int[] {56, 0, -1, -1, 0, 1});
        x.run(7);
        tells(x, 1, new int[] {0, -1, 0, 14, 0, 1});
        tells(x, 0, new int[] {17, -1, 17, 6, 0, 0});
    }

    private static void tells(LandRun x, int p, int[] due) {
        for (int what = 0; what < due.length; what++) {
            CHECK.due("runner(" + p + ", " + what + ") in " + x.count(0), x.runner(p, what), due[what]);
        }
    }

    private static void choosesByWorthThenWayThenNumber() {
        LandRun x = new LandRun();
        x.land(7, 9, 0);
        x.land(8, 8, 0);
        x.land(28, 5, 0);
        x.land(20, 5, 0);
        x.land(27, 5, 0);
        Check.lineman(x, 1, 1, 1, 8, 7);
        // from the line in row 3 quarter 27 is 4 away, 28 is 5 and 20 is 6
        Check.lineman(x, 3, 1, 1, 28, 20, 27);
        Check.lineman(x, 3, 1, 1, 20, 28);
        // in quarter 21 both 20 and 29 are 1 away
        x.land(29, 5, 0);
        Check.hidden(x, 21, 1, 1, 29, 20);
        Check.hidden(x, 30, 1, 1, 20, 29);
        x.run(1);
        CHECK.due("worth", x.runner(0, 1), 7);
        CHECK.due("way from the line", x.runner(1, 1), 27);
        CHECK.due("way from the line of two", x.runner(2, 1), 28);
        CHECK.due("the least staked", x.runner(3, 2), 20);
        CHECK.due("the nearer staked", x.runner(4, 2), 29);
        LandRun line = new LandRun();
        // like ways from the line: 1 + 1 and 0 + 2
        Check.lineman(line, 1, 1, 1, 9, 0);
        Check.lineman(line, 1, 1, 1, 9, 16);
        line.run(1);
        CHECK.due("the lesser above", line.runner(0, 1), 0);
        CHECK.due("the lesser beside", line.runner(1, 1), 9);
    }

    private static void goesAlongTheRowFirst() {
        LandRun x = new LandRun();
        Check.lineman(x, 4, 2, 1, 18);
        Check.hidden(x, 6, 2, 1, 20);
        int[] line = {-1, 32, 33, 34, 26, 18, 18};
        int[] hid = {6, 5, 4, 12, 20, 20, 20};
        x.run(1);
        for (int i = 0; i < line.length; i++) {
            CHECK.due("from the line, step " + i, x.runner(0, 0), line[i]);
            CHECK.due("from where one hid, step " + i, x.runner(1, 0), hid[i]);
            x.run(2);
        }
        CHECK.due("minute of the stake", x.runner(0, 3), 10);
        CHECK.due("minute of the other stake", x.runner(1, 3), 8);
    }

    private static void roughLandIsSlow() {
        LandRun x = new LandRun();
        x.land(0, 0, 3);
        x.land(1, 0, 2);
        x.land(9, 0, 1);
        x.land(63, 0, 3);
        Check.lineman(x, 0, 9, 1, 9);
        x.run(35);
        CHECK.due("minute 35", x.runner(0, 0), LandRun.NONE);
        x.run(1);
        CHECK.due("minute 36", x.runner(0, 0), 0);
        x.run(26);
        CHECK.due("minute 62", x.runner(0, 0), 0);
        x.run(1);
        CHECK.due("minute 63", x.runner(0, 0), 1);
        x.run(17);
        CHECK.due("minute 80", x.runner(0, 0), 1);
        x.run(1);
        CHECK.due("minute 81", x.runner(0, 2), 9);
        CHECK.due("minute of the stake", x.runner(0, 3), 81);
    }

    private static void lesserNumberComesFirst() {
        LandRun x = new LandRun();
        Check.lineman(x, 1, 4, 1, 16);
        Check.lineman(x, 3, 4, 1, 16);
        Check.lineman(x, 2, 8, 1, 16);
        Check.hidden(x, 17, 7, 1, 16);
        x.run(20);
        CHECK.due("staked", x.staked(16), 3);
        LandRun y = new LandRun();
        Check.lineman(y, 1, 4, 1, 16);
        Check.lineman(y, 3, 4, 1, 16);
        Check.lineman(y, 2, 8, 1, 16);
        y.run(8);
        CHECK.due("staked by the least number", y.staked(16), 0);
        CHECK.due("its minute", y.runner(0, 3), 8);
        CHECK.due("another one has seen it", y.runner(1, 4), 1);
        CHECK.due("a third one has seen it", y.runner(2, 4), 1);
        CHECK.due("and is done", y.runner(2, 1), LandRun.NONE);
        CHECK.due("the first has seen nothing", y.runner(0, 4), 0);
    }

    private static void seesOnTheWay() {
        LandRun x = new LandRun();
        x.land(3, 9, 0);
        x.land(1, 5, 0);
        x.land(0, 4, 0);
        // 0 stakes 1; 1 stakes 3; 2 passes by 1, which it knows of, and by 2, which is free, and turns back to 0
        Check.hidden(x, 1, 1, 1, 1);
        Check.hidden(x, 3, 1, 1, 3);
        Check.lineman(x, 0, 1, 1, 3, 1, 0);
        Check.lineman(x, 0, 1, 1, 2);
        x.run(2);
        CHECK.due("seen on the way", x.runner(2, 4), 1);
        CHECK.due("and on the way of one who does not know of it", x.runner(3, 4), 1);
        CHECK.due("still goes for 3", x.runner(2, 1), 3);
        x.run(2);
        CHECK.due("at 3", x.runner(2, 0), 3);
        CHECK.due("seen 3, and 2 was free ahead of the other", x.runner(2, 4), 2);
        CHECK.due("not 1, which is seen", x.runner(2, 1), 0);
        x.run(1);
        CHECK.due("2 is staked by now", x.runner(2, 4), 3);
        x.run(1);
        CHECK.due("1 is seen once alone", x.runner(2, 4), 3);
        x.run(1);
        CHECK.due("stakes 0", x.runner(2, 2), 0);
        CHECK.due("in minute 7", x.runner(2, 3), 7);
        CHECK.due("stakes", x.count(2), 4);
    }

    private static void hiddenOnes() {
        LandRun x = new LandRun();
        x.land(10, 9, 0);
        x.land(11, 3, 0);
        x.land(12, 5, 0);
        Check.hidden(x, 10, 1, 1, 10, 11);
        Check.hidden(x, 10, 1, 1, 10, 11);
        // two goals in a row where one is and where one was not
        Check.hidden(x, 10, 1, 1, 10);
        // hid where one does not wish to be
        Check.hidden(x, 11, 1, 1, 11, 12);
        x.run(1);
        CHECK.due("stakes in minute 0", x.runner(0, 3), 0);
        CHECK.due("the next one has seen it", x.runner(1, 4), 1);
        CHECK.due("and stakes the next quarter in minute 1", x.runner(1, 3), 1);
        CHECK.due("that one is 11", x.runner(1, 2), 11);
        CHECK.due("a third one is done", x.runner(2, 1), LandRun.NONE);
        CHECK.due("and has seen it", x.runner(2, 4), 1);
        CHECK.due("a fourth one leaves for what is worth more", x.runner(3, 2), 12);
        CHECK.due("not staked twice", x.count(2), 3);
    }

    private static void doneWithoutAnyQuarter() {
        LandRun x = new LandRun();
        Check.lineman(x, 0, 1, 1);
        Check.hidden(x, 5, 1, 1, 5);
        Check.lineman(x, 0, 1, 1, 5);
        x.run(6);
        CHECK.due("knows nothing", x.runner(0, 1), LandRun.NONE);
        CHECK.due("stays on the line", x.runner(0, 0), LandRun.NONE);
        CHECK.due("came too late", x.runner(2, 1), LandRun.NONE);
        CHECK.due("stays there", x.runner(2, 0), 5);
        x.run(1000);
        CHECK.due("stays there", x.runner(2, 0), 5);
        CHECK.due("without a stake", x.runner(2, 2), LandRun.NONE);
        CHECK.due("or a minute", x.runner(2, 3), LandRun.NONE);
    }
}
