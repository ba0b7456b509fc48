/** Promises 19 to 21: bid, sell and bought. */
public final class BidsTest {
    private static final Check CHECK = new Check("BidsTest");

    private BidsTest() {
    }

    public static void main(String[] args) {
        bidsAreAsTold();
        mostPence();
        firstOfLikeOnes();
        withoutOneOnlyIfItMust();
        firstEightAlone();
        eightBidAll();
        CHECK.finish();
    }

    private static void sold(LandRun x, int pence, int... due) {
        CHECK.due("sell()", x.sell(), pence);
        for (int p = 0; p < due.length; p++) {
            CHECK.due("bought(" + p + ")", x.bought(p), due[p]);
        }
    }

    private static void bidsAreAsTold() {
        LandRun x = new LandRun();
        Check.lineman(x, 0, 1, 1, 9, 3, 5);
        Check.lineman(x, 0, 1, 1);
        CHECK.no("two of three", Check.bid(x, 0, 1, 2));
        CHECK.no("four of three", Check.bid(x, 0, 1, 2, 3, 4));
        CHECK.no("none of three", Check.bid(x, 0));
        CHECK.no("nobody", Check.bid(x, 2, 1, 2, 3));
        CHECK.no("nobody", Check.bid(x, -1));
        sold(x, 0, -1, -1);
        CHECK.yes("three of three", Check.bid(x, 0, 1, 255, 3));
        CHECK.yes("none of none", Check.bid(x, 1));
        CHECK.no("one of none", Check.bid(x, 1, 1));
        CHECK.due("ahead of sell", x.bought(0), LandRun.NONE);
        sold(x, 255, 3, -1, -1);
        CHECK.no("a wrong bid", Check.bid(x, 0, 9));
        sold(x, 255, 3, -1, -1);
        CHECK.yes("another bid", Check.bid(x, 0, 7, 0, 8));
        CHECK.due("bought by the latest sell", x.bought(0), 3);
        sold(x, 8, 5, -1, -1);
        CHECK.yes("no bid", Check.bid(x, 0, 0, 0, 0));
        sold(x, 0, -1, -1, -1);
        CHECK.due("bought(-1)", x.bought(-1), LandRun.NONE);
        CHECK.due("bought(8)", x.bought(8), LandRun.NONE);
        CHECK.due("bought(MAX)", x.bought(Integer.MAX_VALUE), LandRun.NONE);
    }

    private static void mostPence() {
        LandRun x = new LandRun();
        for (int p = 0; p < 3; p++) {
            Check.lineman(x, 0, 1, 1, 0, 1, 2);
        }
        // whoever bids most for each would pay 9 + 7 + 1
        Check.bid(x, 0, 9, 8, 1);
        Check.bid(x, 1, 8, 1, 1);
        Check.bid(x, 2, 7, 7, 1);
        sold(x, 17, 0, 2, 1);
        Check.bid(x, 2, 7, 7, 4);
        sold(x, 20, 1, 0, 2);
        Check.bid(x, 0, 200, 8, 1);
        sold(x, 208, 0, 2, 1);
    }

    private static void firstOfLikeOnes() {
        LandRun x = new LandRun();
        Check.lineman(x, 0, 1, 1, 40, 7, 20);
        Check.lineman(x, 0, 1, 1, 20, 7, 40);
        Check.lineman(x, 0, 1, 1, 7, 40, 20);
        Check.bid(x, 0, 5, 5, 5);
        Check.bid(x, 1, 5, 5, 5);
        sold(x, 10, 7, 20, -1);
        Check.bid(x, 2, 5, 5, 5);
        sold(x, 15, 7, 20, 40);
        Check.bid(x, 2, 5, 0, 0);
        sold(x, 15, 20, 40, 7);
        Check.bid(x, 1, 5, 0, 0);
        sold(x, 15, 40, 20, 7);
    }

    private static void withoutOneOnlyIfItMust() {
        LandRun x = new LandRun();
        Check.lineman(x, 0, 1, 1, 7);
        Check.lineman(x, 0, 1, 1, 7, 8);
        Check.lineman(x, 0, 1, 1, 8);
        Check.bid(x, 0, 5);
        Check.bid(x, 1, 5, 0);
        sold(x, 5, 7, -1, -1);
        Check.bid(x, 1, 6, 0);
        sold(x, 6, -1, 7, -1);
        // like pence with 0 at 7 and 1 at 8, or 1 at 7 and 2 at 8
        Check.bid(x, 1, 5, 5);
        Check.bid(x, 2, 5);
        sold(x, 10, 7, 8, -1);
        Check.bid(x, 2, 6);
        sold(x, 11, 7, -1, 8);
    }

    private static void firstEightAlone() {
        LandRun x = new LandRun();
        for (int p = 0; p < 10; p++) {
            Check.lineman(x, 0, 1, 1, p, 63);
            CHECK.yes("bid of " + p, Check.bid(x, p, 1, p));
        }
        sold(x, 14, 0, 1, 2, 3, 4, 5, 6, 63, -1, -1);
    }

    private static void eightBidAll() {
        LandRun x = new LandRun();
        int[] pence = new int[12];
        for (int p = 0; p < 8; p++) {
            int[] known = new int[12];
            for (int i = 0; i < 12; i++) {
                known[i] = 63 - i;
                pence[i] = 255;
            }
            Check.lineman(x, 0, 1, 1, known);
            Check.bid(x, p, pence);
        }
        sold(x, 2040, 52, 53, 54, 55, 56, 57, 58, 59);
        pence[11] = 254;
        Check.bid(x, 0, pence);
        sold(x, 2040, 53, 52, 54, 55, 56, 57, 58, 59);
        // the greatest of twelve known quarters can be had too, by the first and by the last bidder
        int[] one = new int[12];
        one[0] = 9;
        Check.bid(x, 0, one);
        sold(x, 1794, 63, 52, 53, 54, 55, 56, 57, 58);
        Check.bid(x, 0, new int[12]);
        Check.bid(x, 7, one);
        sold(x, 1539, -1, 52, 53, 54, 55, 56, 57, 63);
    }
}
