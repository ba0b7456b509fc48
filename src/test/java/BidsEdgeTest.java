/** Promises 19 to 21 at their edges, with BIDS: bid, sell and bought. */
public final class BidsEdgeTest {
    private static final Check CHECK = new Check("BidsEdgeTest");
    private static final int NONE = LandRun.NONE;
    private static final int MIN = Integer.MIN_VALUE;
    private static final int MAX = Integer.MAX_VALUE;

    private BidsEdgeTest() {
    }

    public static void main(String[] args) {
        bidOfNoSuchOne();
        asManyBytesAsKnown();
        bidOfNothingKnown();
        bidOfTwelve();
        pence0To255();
        inThePlaceOfThoseAhead();
        refusedBidStays();
        inTheOrderTold();
        nobodySells();
        eachQuarterToOne();
        eachOneGetsOne();
        mostPence();
        leastQuarterThatMayBe();
        withoutOneOnlyIfItMust();
        byRisingNumbers();
        everyoneTheLeast();
        firstEightAlone();
        mostPenceOfAll();
        latestSell();
        boughtOfNobody();
        firstAndLastQuarter();
        besideTheRun();
        tapeIsEmptyThen();
        CHECK.finish();
    }

    private static void sold(LandRun x, int pence, int... due) {
        CHECK.due("sell()", x.sell(), pence);
        for (int p = 0; p < due.length; p++) {
            CHECK.due("bought(" + p + ")", x.bought(p), due[p]);
        }
    }

    /** As many PEOPLE as there are rows, who all KNOW of these QUARTERS, and bid a row of pence each. */
    private static LandRun bidders(int[] known, int[]... pence) {
        LandRun x = new LandRun();
        for (int p = 0; p < pence.length; p++) {
            Check.lineman(x, 0, 1, 1, known);
            CHECK.yes("bid(" + p + ")", Check.bid(x, p, pence[p]));
        }
        return x;
    }

    private static int[] row(int... numbers) {
        return numbers;
    }

    /** "false: no such one" */
    private static void bidOfNoSuchOne() {
        LandRun x = new LandRun();
        CHECK.no("bid(0) of nobody", Check.bid(x, 0));
        Check.lineman(x, 0, 1, 1, 5);
        Check.lineman(x, 0, 1, 1, 5);
        for (int p : new int[] {-1, 2, 29, 30, MIN, MAX}) {
            CHECK.no("bid(" + p + ")", Check.bid(x, p, 7));
        }
        sold(x, 0, NONE, NONE);
        CHECK.yes("bid(0)", Check.bid(x, 0, 7));
        CHECK.yes("bid(1)", Check.bid(x, 1, 8));
        sold(x, 8, NONE, 5);
    }

    /** "or another number of bytes" */
    private static void asManyBytesAsKnown() {
        LandRun x = new LandRun();
        Check.lineman(x, 0, 1, 1, 5, 6, 7);
        int[][] wrong = {{}, {1}, {1, 2}, {1, 2, 3, 4}, new int[20], new int[200]};
        for (int[] pence : wrong) {
            CHECK.no("bid of " + pence.length, Check.bid(x, 0, pence));
            sold(x, 0, NONE);
        }
        CHECK.yes("bid of 3", Check.bid(x, 0, 1, 3, 2));
        sold(x, 3, 6);
    }

    private static void bidOfNothingKnown() {
        LandRun x = new LandRun();
        Check.lineman(x, 0, 1, 1);
        CHECK.no("bid of 1", Check.bid(x, 0, 1));
        CHECK.yes("bid of 0", Check.bid(x, 0));
        sold(x, 0, NONE);
    }

    private static void bidOfTwelve() {
        LandRun x = new LandRun();
        int[] known = {12, 11, 10, 9, 8, 7, 6, 5, 4, 3, 2, 1};
        Check.lineman(x, 0, 1, 1, known);
        CHECK.no("bid of 11", Check.bid(x, 0, new int[11]));
        CHECK.no("bid of 13", Check.bid(x, 0, new int[13]));
        for (int i = 0; i < 12; i++) {
            int[] pence = new int[12];
            pence[i] = 1;
            CHECK.yes("bid of 12", Check.bid(x, 0, pence));
            sold(x, 1, known[i]);
        }
    }

    /** "(pence 1 to 255 each)"; "(0: no bid)" */
    private static void pence0To255() {
        LandRun x = new LandRun();
        Check.lineman(x, 0, 1, 1, 5);
        for (int pence : new int[] {255, 128, 127, 1, 0}) {
            CHECK.yes("bid of " + pence, Check.bid(x, 0, pence));
            sold(x, pence, pence == 0 ? NONE : 5);
        }
        sold(bidders(row(5), row(254), row(255)), 255, NONE, 5);
        sold(bidders(row(5), row(255), row(254)), 255, 5, NONE);
        sold(bidders(row(5), row(0), row(1)), 1, NONE, 5);
    }

    private static void inThePlaceOfThoseAhead() {
        LandRun x = bidders(row(5, 6), row(9, 0), row(4, 0));
        sold(x, 9, 5, NONE);
        CHECK.yes("another bid", Check.bid(x, 0, 0, 3));
        sold(x, 7, 6, 5);
        CHECK.yes("no bid", Check.bid(x, 0, 0, 0));
        sold(x, 4, NONE, 5);
    }

    private static void refusedBidStays() {
        LandRun x = bidders(row(5, 6), row(9, 8));
        CHECK.no("a byte less", Check.bid(x, 0, 200));
        CHECK.no("a byte more", Check.bid(x, 0, 200, 201, 202));
        CHECK.no("of nobody", Check.bid(x, 1, 200, 201));
        sold(x, 9, 5);
    }

    /** "pence for each QUARTER that one KNOWS of, in the order told" */
    private static void inTheOrderTold() {
        LandRun x = new LandRun();
        Check.lineman(x, 0, 1, 1, 63, 0, 30);
        Check.lineman(x, 0, 1, 1, 0, 30, 63);
        Check.bid(x, 0, 1, 2, 3);
        sold(x, 3, 30, NONE);
        Check.bid(x, 0, 3, 1, 2);
        sold(x, 3, 63, NONE);
        Check.bid(x, 1, 3, 1, 2);
        sold(x, 6, 63, 0);
    }

    private static void nobodySells() {
        LandRun x = new LandRun();
        sold(x, 0, NONE);
        Check.lineman(x, 0, 1, 1, 5);
        sold(x, 0, NONE);
    }

    /** "each QUARTER to one at most" */
    private static void eachQuarterToOne() {
        sold(bidders(row(5), row(7), row(8), row(9)), 9, NONE, NONE, 5);
        sold(bidders(row(5, 6), row(7, 0), row(8, 0), row(0, 1)), 9, NONE, 5, 6);
    }

    /** "to each of PEOPLE one at most" */
    private static void eachOneGetsOne() {
        sold(bidders(row(5, 6, 7), row(10, 20, 30)), 30, 7);
        sold(bidders(row(5, 6, 7), row(10, 20, 30), row(0, 1, 0)), 31, 7, 6);
    }

    /** "so that all pence paid are most": not the dearest bid first, and not the most QUARTERS. */
    private static void mostPence() {
        sold(bidders(row(5, 6), row(10, 9), row(9, 0)), 18, 6, 5);
        sold(bidders(row(5, 6), row(10, 1), row(8, 0)), 10, 5, NONE);
        sold(bidders(row(5, 6), row(10, 2), row(8, 0)), 10, 5, NONE);
        sold(bidders(row(5, 6), row(10, 3), row(8, 0)), 11, 6, 5);
        sold(bidders(row(1, 2, 3), row(9, 8, 0), row(8, 0, 7), row(7, 8, 1)), 24, 1, 3, 2);
    }

    /** "each with the least QUARTER that may be" */
    private static void leastQuarterThatMayBe() {
        sold(bidders(row(9, 4, 7), row(5, 5, 5)), 5, 4);
        sold(bidders(row(9, 4, 7), row(5, 5, 5), row(5, 5, 5)), 10, 4, 7);
        sold(bidders(row(9, 4, 7), row(5, 5, 5), row(5, 5, 5), row(5, 5, 5)), 15, 4, 7, 9);
        sold(bidders(row(9, 4, 7), row(5, 5, 5), row(0, 5, 0)), 10, 7, 4);
        sold(bidders(row(9, 4, 7), row(5, 5, 5), row(0, 5, 0), row(0, 0, 5)), 15, 9, 4, 7);
        sold(bidders(row(9, 4, 7), row(6, 5, 5)), 6, 9);
    }

    /** "or without one only if it must" */
    private static void withoutOneOnlyIfItMust() {
        sold(bidders(row(4, 7), row(5, 0), row(5, 0)), 5, 4, NONE);
        sold(bidders(row(4, 7), row(5, 0), row(6, 0)), 6, NONE, 4);
        sold(bidders(row(4, 7), row(0, 5), row(5, 5), row(5, 0)), 10, 7, 4, NONE);
        sold(bidders(row(4, 63), row(0, 5), row(5, 5)), 10, 63, 4);
        sold(bidders(row(4, 7), row(0, 5), row(0, 5), row(5, 0), row(5, 0)), 10, 7, NONE, 4, NONE);
    }

    /** The first of PEOPLE has the least one even if each later one must have a greater one, or none. */
    private static void byRisingNumbers() {
        sold(bidders(row(1, 2, 3), row(5, 5, 0), row(5, 0, 5), row(0, 5, 5)), 15, 1, 3, 2);
        sold(bidders(row(1, 2), row(5, 5), row(5, 5), row(5, 5)), 10, 1, 2, NONE);
        // a sure 10 for the first two, or for the first and the last: the second is not without one
        sold(bidders(row(1, 2), row(5, 0), row(5, 5), row(5, 5)), 10, 1, 2, NONE);
    }

    private static void everyoneTheLeast() {
        LandRun x = new LandRun();
        int[] due = new int[8];
        for (int p = 0; p < 8; p++) {
            due[p] = 8 * p;
            Check.lineman(x, 0, 1, 1, 8 * p + 1, 8 * p);
            Check.bid(x, p, 1, 1);
        }
        sold(x, 8, due);
        LandRun y = new LandRun();
        int[] pence = new int[12];
        pence[11] = 1;
        for (int p = 0; p < 8; p++) {
            int[] known = {0, 1, 2, 3, 4, 5, 6, 7, 8, 9, 10, 50 + p};
            due[p] = 50 + p;
            Check.lineman(y, 0, 1, 1, known);
            Check.bid(y, p, pence);
        }
        sold(y, 8, due);
    }

    /** "BIDS of the first 8 of PEOPLE" */
    private static void firstEightAlone() {
        LandRun x = new LandRun();
        for (int p = 0; p < 10; p++) {
            Check.lineman(x, 0, 1, 1, 10 + p, 40);
        }
        Check.bid(x, 7, 3, 4);
        CHECK.yes("bid(8)", Check.bid(x, 8, 200, 201));
        CHECK.yes("bid(9)", Check.bid(x, 9, 200, 201));
        sold(x, 4, NONE, NONE, NONE, NONE, NONE, NONE, NONE, 40, NONE, NONE);
        Check.bid(x, 6, 1, 3);
        sold(x, 6, NONE, NONE, NONE, NONE, NONE, NONE, 40, 17, NONE, NONE);
        CHECK.no("bid(10)", Check.bid(x, 10, 1, 1));
    }

    private static void mostPenceOfAll() {
        LandRun x = new LandRun();
        for (int p = 0; p < 9; p++) {
            Check.lineman(x, 0, 1, 1, p);
            Check.bid(x, p, 255);
        }
        sold(x, 2040, 0, 1, 2, 3, 4, 5, 6, 7, NONE);
    }

    private static void latestSell() {
        LandRun x = bidders(row(5, 6), row(9, 8));
        CHECK.due("ahead of any sell", x.bought(0), NONE);
        sold(x, 9, 5);
        Check.bid(x, 0, 1, 2);
        CHECK.due("by the latest sell", x.bought(0), 5);
        Check.lineman(x, 0, 1, 1, 5);
        CHECK.due("one who came later", x.bought(1), NONE);
        sold(x, 2, 6, NONE);
        sold(x, 2, 6, NONE);
    }

    /** "NONE: none, no such one of the first 8, or ahead of any" */
    private static void boughtOfNobody() {
        LandRun x = bidders(row(5, 6), row(9, 0), row(9, 0));
        sold(x, 9, 5, NONE);
        for (int p : new int[] {-1, 2, 7, 8, 29, 30, MIN, MAX}) {
            CHECK.due("bought(" + p + ")", x.bought(p), NONE);
        }
    }

    private static void firstAndLastQuarter() {
        sold(bidders(row(0, 63), row(5, 6), row(5, 5)), 11, 63, 0);
        sold(bidders(row(63, 0), row(5, 5), row(5, 5)), 10, 0, 63);
    }

    /** Neither stakes nor lots take from what is sold, and WORTH does not matter. */
    private static void besideTheRun() {
        LandRun x = new LandRun();
        x.land(6, 99, 0);
        Check.hidden(x, 5, 1, 1, 5);
        Check.lineman(x, 0, 1, 1, 5, 6);
        x.run(1);
        Check.lots(x, 0, 1);
        CHECK.yes("bid in the run", Check.bid(x, 1, 3, 2));
        sold(x, 3, NONE, 5);
        CHECK.due("staked(5)", x.staked(5), 0);
        CHECK.due("drawn(0)", x.drawn(0), 5);
    }

    private static void tapeIsEmptyThen() {
        LandRun x = bidders(row(5, 6), row(1, 2));
        CHECK.due("bytes behind bid", x.count(7), 0);
        Check.bid(x, 0, 1);
        CHECK.due("bytes behind another number of bytes", x.count(7), 0);
        Check.bid(x, 1, 1, 2);
        CHECK.due("bytes behind a bid of nobody", x.count(7), 0);
        x.feed(0, 0, 0, 0, 0);
        x.sell();
        CHECK.due("sell reads no tape", x.count(7), 20);
    }
}
