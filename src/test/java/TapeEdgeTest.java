/** Promises 1, 2, 3 and 22 at their edges: a new object, feed, end and count. */
public final class TapeEdgeTest {
    private static final Check CHECK = new Check("TapeEdgeTest");
    private static final int BLANKS = 0x20202020;
    private static final int MIN = Integer.MIN_VALUE;
    private static final int MAX = Integer.MAX_VALUE;

    private TapeEdgeTest() {
    }

    public static void main(String[] args) {
        newObjectHasNobodyAndNothing();
        newObjectHasNotBegun();
        newObjectHasTheLawWithoutAText();
        newLandIsWithoutWorth();
        newLandIsNotRough();
        newObjectsShareNothing();
        feedUpToTwoHundred();
        noneComeBeyondTwoHundred();
        feedBehindAnyEnd();
        bytesFrom0To255();
        endAtEachPlace();
        endIsRefused();
        endOfAnEmptyTape();
        endOfAFullTape();
        cutBytesAreGone();
        countsOfNothingElse();
        CHECK.finish();
    }

    /** "No PEOPLE, CLAIMS, WITNESSES, BIDS; MINUTE 0 ..; DAY 0; ..; an empty tape." */
    private static void newObjectHasNobodyAndNothing() {
        LandRun x = new LandRun();
        for (int what = 0; what <= 7; what++) {
            CHECK.due("count(" + what + ")", x.count(what), 0);
        }
        CHECK.runnerThrows(x, 0, 0);
        CHECK.due("file by nobody", x.file(0, 0), LandRun.NONE);
        CHECK.due("witness of no CLAIM", x.witness(0, 0, 0), LandRun.NONE);
        CHECK.due("span of no CLAIM", x.span(0, 0, 0), LandRun.NONE);
        CHECK.no("bid of nobody", x.bid(0));
        CHECK.no("end(1)", x.end(1));
        CHECK.due("drawn ahead of any lots", x.drawn(0), LandRun.NONE);
        CHECK.due("bought ahead of any sell", x.bought(0), LandRun.NONE);
        CHECK.due("fault ahead of any law", x.fault(), 0);
        CHECK.due("sell without BIDS", x.sell(), 0);
        CHECK.due("the first of PEOPLE", Check.lineman(x, 0, 1, 1, 5), 0);
        CHECK.due("sell without BIDS of the first one", x.sell(), 0);
        CHECK.due("the first CLAIM", x.file(0, 0), 0);
        CHECK.due("the first WITNESS", x.witness(0, 0, 0), 1);
        CHECK.due("the claim is of DAY 0", x.span(0, 0, 2), 1);
        CHECK.due("the first bytes", x.feed(0, 0, 0, 0, 0), 20);
    }

    /** "not begun" */
    private static void newObjectHasNotBegun() {
        LandRun x = new LandRun();
        Check.hidden(x, 5, 1, 1, 5);
        CHECK.due("goes for nothing yet", x.runner(0, 1), LandRun.NONE);
        CHECK.due("nothing is staked yet", x.staked(5), LandRun.NONE);
        CHECK.yes("land", x.land(5, 1, 1));
        CHECK.due("the first MINUTE", x.run(1), 1);
        CHECK.due("staked in MINUTE 0", x.runner(0, 3), 0);
    }

    /** "LAW as without a text": age 0, hidden heard, proof 0, days 999, doubt nobody. */
    private static void newObjectHasTheLawWithoutAText() {
        LandRun x = new LandRun();
        Check.hidden(x, 5, 1, 0);
        Check.lineman(x, 0, 1, 0);
        x.file(0, 9);
        x.wait(999);
        x.file(1, 9);
        for (int k = 0; k < 2; k++) {
            CHECK.due("CLAIM " + k + " is LAWFUL", x.span(k, 999, 3), 1);
        }
        CHECK.due("nobody has it", x.judge(9, 999), LandRun.NONE);
        CHECK.due("by doubt", x.doubt(9, 999), 1);
    }

    /** "each with a WORTH .. and ROUGH .., 0 both at first": the one with the greatest WORTH is worth nothing. */
    private static void newLandIsWithoutWorth() {
        LandRun x = new LandRun();
        for (int p = 0; p < 6; p++) {
            int[] known = new int[p == 5 ? 4 : 12];
            for (int i = 0; i < known.length; i++) {
                known[i] = 12 * p + i;
            }
            Check.lineman(x, 0, 1, 1, known);
            CHECK.due("WORTH of twelve QUARTERS", Check.lots(x, p), 0);
            CHECK.due("the least of twelve", x.drawn(p), 12 * p);
        }
    }

    private static void newLandIsNotRough() {
        LandRun x = new LandRun();
        for (int row = 0; row < 8; row++) {
            Check.lineman(x, row, 1, 1, 8 * row + 7);
        }
        x.run(7);
        CHECK.due("staked in MINUTE 7", x.count(2), 0);
        x.run(1);
        CHECK.due("staked in MINUTE 8", x.count(2), 8);
    }

    private static void newObjectsShareNothing() {
        LandRun x = new LandRun();
        LandRun y = new LandRun();
        x.land(5, 9, 3);
        Check.hidden(x, 5, 1, 1, 5);
        Check.law(x, "age 1;");
        x.run(3);
        x.wait(3);
        x.file(0, 5);
        x.witness(0, 1, 2);
        x.feed(0, 0, 0, 0, 0);
        for (int what = 0; what <= 7; what++) {
            CHECK.due("count(" + what + ") of the other", y.count(what), 0);
        }
        CHECK.due("staked(5) of the other", y.staked(5), LandRun.NONE);
        CHECK.due("its first one", Check.lineman(y, 0, 1, 1, 5), 0);
        CHECK.due("its WORTH", Check.lots(y, 0), 0);
        CHECK.due("count(7) of the first", x.count(7), 20);
    }

    private static void feedBlanks(LandRun x, int times) {
        for (int i = 0; i < times; i++) {
            x.feed(BLANKS, BLANKS, BLANKS, BLANKS, BLANKS);
        }
    }

    /** "how many it has; NONE .. if it would have more than 200": 180 and 20 are 200. */
    private static void feedUpToTwoHundred() {
        LandRun x = new LandRun();
        feedBlanks(x, 8);
        CHECK.due("feed at 160", x.feed(MIN, MAX, -1, 0, 1), 180);
        CHECK.due("feed at 180", x.feed(MIN, MAX, -1, 0, 1), 200);
        CHECK.due("bytes", x.count(7), 200);
        CHECK.due("feed at 200", x.feed(0, 0, 0, 0, 0), LandRun.NONE);
        CHECK.due("bytes", x.count(7), 200);
    }

    /** "NONE, and none come": not those for which there would be room, either. */
    private static void noneComeBeyondTwoHundred() {
        LandRun x = new LandRun();
        feedBlanks(x, 9);
        x.feed(0x61202020, BLANKS, BLANKS, BLANKS, BLANKS);
        CHECK.yes("end(181)", x.end(181));
        CHECK.due("feed at 181", x.feed(0x67652031, 0x3B202020, BLANKS, BLANKS, BLANKS), LandRun.NONE);
        CHECK.due("bytes", x.count(7), 181);
        CHECK.no("end(182)", x.end(182));
        CHECK.due("the text is blanks and an a", x.law(), -181);
        CHECK.due("which can't come", x.fault(), 2);
        // the same bytes in time are the rest of a rule
        feedBlanks(x, 8);
        x.feed(0x61202020, BLANKS, BLANKS, BLANKS, BLANKS);
        x.end(161);
        CHECK.due("feed at 161", x.feed(0x67652031, 0x3B202020, BLANKS, BLANKS, BLANKS), 181);
        CHECK.due("the text is a rule", x.law(), 1);
    }

    private static void feedBehindAnyEnd() {
        LandRun x = new LandRun();
        feedBlanks(x, 8);
        for (int n = 160; n <= 180; n++) {
            x.end(n);
            CHECK.due("feed at " + n, x.feed(0, 0, 0, 0, 0), n + 20);
        }
        for (int n = 200; n >= 181; n--) {
            x.end(n);
            CHECK.due("feed at " + n, x.feed(0, 0, 0, 0, 0), LandRun.NONE);
            CHECK.due("bytes", x.count(7), n);
        }
        x.end(180);
        CHECK.due("feed at 180 again", x.feed(0, 0, 0, 0, 0), 200);
    }

    /** "of each number the highest first": a byte is one of 0 to 255 in each place, never below 0. */
    private static void bytesFrom0To255() {
        LandRun x = new LandRun();
        int[] known = {7, 5, 6, 4};
        Check.lineman(x, 0, 1, 1, known);
        for (int value : new int[] {0, 1, 127, 128, 254, 255}) {
            for (int place = 0; place < 4; place++) {
                x.feed(value << 24 - 8 * place, -1, -1, -1, -1);
                x.end(4);
                x.bid(0);
                CHECK.due("byte " + value + " in place " + place, x.sell(), value);
                CHECK.due("its place " + place, x.bought(0), value == 0 ? LandRun.NONE : known[place]);
            }
        }
    }

    /** "The tape has its first n bytes alone: true": from all of them down to none. */
    private static void endAtEachPlace() {
        LandRun x = new LandRun();
        x.feed(0, 0, 0, 0, 0);
        for (int n = 20; n >= 0; n--) {
            CHECK.yes("end(" + n + ")", x.end(n));
            CHECK.due("bytes", x.count(7), n);
            CHECK.yes("end(" + n + ") again", x.end(n));
            CHECK.due("bytes", x.count(7), n);
        }
    }

    /** "false, if it has not so many, or n is below 0" */
    private static void endIsRefused() {
        LandRun x = new LandRun();
        x.feed(0x61676520, 0x313B2020, BLANKS, BLANKS, BLANKS);
        for (int n : new int[] {21, 200, 201, MAX, -1, MIN}) {
            CHECK.no("end(" + n + ")", x.end(n));
            CHECK.due("bytes", x.count(7), 20);
        }
        CHECK.yes("end(20)", x.end(20));
        CHECK.due("the text is whole", x.law(), 1);
    }

    private static void endOfAnEmptyTape() {
        LandRun x = new LandRun();
        CHECK.yes("end(0)", x.end(0));
        CHECK.no("end(1)", x.end(1));
        CHECK.no("end(-1)", x.end(-1));
        CHECK.due("bytes", x.count(7), 0);
    }

    private static void endOfAFullTape() {
        LandRun x = new LandRun();
        feedBlanks(x, 10);
        CHECK.no("end(201)", x.end(201));
        CHECK.due("bytes", x.count(7), 200);
        CHECK.yes("end(200)", x.end(200));
        CHECK.yes("end(199)", x.end(199));
        CHECK.no("end(200) behind that", x.end(200));
        CHECK.due("bytes", x.count(7), 199);
    }

    private static void cutBytesAreGone() {
        LandRun x = new LandRun();
        x.feed(0x61676520, 0x313B2323, 0x23232323, 0x23232323, 0x23232323);
        x.end(6);
        CHECK.no("end(7)", x.end(7));
        CHECK.due("the text is the first six bytes", x.law(), 1);
        x.feed(0x61676520, 0x323B2323, 0x23232323, 0x23232323, 0x23232323);
        x.end(4);
        CHECK.due("feed at 4", x.feed(0x313B2020, BLANKS, BLANKS, BLANKS, BLANKS), 24);
        CHECK.due("the text goes on with the new bytes", x.law(), 1);
    }

    /** "NONE for another what" */
    private static void countsOfNothingElse() {
        LandRun x = new LandRun();
        x.feed(0, 0, 0, 0, 0);
        CHECK.due("count(7)", x.count(7), 20);
        CHECK.due("count(0)", x.count(0), 0);
        for (int what : new int[] {8, -1, MIN, MAX}) {
            CHECK.due("count(" + what + ")", x.count(what), LandRun.NONE);
        }
    }
}
