/** Promises 17 and 18 at their edges, with LOTS: lots and drawn. */
public final class LotsEdgeTest {
    private static final Check CHECK = new Check("LotsEdgeTest");
    private static final int NONE = LandRun.NONE;

    private LotsEdgeTest() {
    }

    public static void main(String[] args) {
        nobodyThere();
        orderOfNobody();
        orderOfOneAndOfAll();
        someOfPeople();
        eachOnce();
        noSuchOrderChangesNothing();
        greatestWorth();
        leastOfLikeOnes();
        ifThereIsAny();
        firstAndLastQuarter();
        mostWorths();
        latestLots();
        drawnOfNobody();
        besideTheRun();
        tapeIsEmptyThen();
        CHECK.finish();
    }

    private static void drawn(LandRun x, int... due) {
        for (int p = 0; p < due.length; p++) {
            CHECK.due("drawn(" + p + ")", x.drawn(p), due[p]);
        }
    }

    private static void nobodyThere() {
        LandRun x = new LandRun();
        CHECK.due("an empty order", x.lots(), 0);
        CHECK.due("an order of the first one", Check.lots(x, 0), NONE);
        CHECK.due("drawn(0)", x.drawn(0), NONE);
    }

    private static LandRun threePeople() {
        LandRun x = new LandRun();
        x.land(10, 10, 0);
        x.land(20, 20, 0);
        x.land(30, 30, 0);
        for (int p = 0; p < 3; p++) {
            Check.lineman(x, 0, 1, 1, 20, 30, 10);
        }
        return x;
    }

    private static void orderOfNobody() {
        LandRun x = threePeople();
        CHECK.due("an empty order", x.lots(), 0);
        drawn(x, NONE, NONE, NONE);
        Check.lots(x, 0, 1, 2);
        CHECK.due("an empty order behind another one", x.lots(), 0);
        drawn(x, NONE, NONE, NONE);
    }

    private static void orderOfOneAndOfAll() {
        LandRun x = threePeople();
        CHECK.due("the first one", Check.lots(x, 0), 30);
        drawn(x, 30, NONE, NONE);
        CHECK.due("the last one", Check.lots(x, 2), 30);
        drawn(x, NONE, NONE, 30);
        CHECK.due("all", Check.lots(x, 2, 0, 1), 60);
        drawn(x, 20, 10, 30);
    }

    /** "(some of PEOPLE ..)": from 0 to the last one. */
    private static void someOfPeople() {
        LandRun x = threePeople();
        for (int p : new int[] {3, 29, 30, 63, 64, 127, 128, 255}) {
            CHECK.due("an order of " + p, Check.lots(x, p), NONE);
            CHECK.due("an order of 0 and " + p, Check.lots(x, 0, p), NONE);
        }
        drawn(x, NONE, NONE, NONE);
        Check.lineman(x, 0, 1, 1, 30);
        CHECK.due("of 3 when there is one", Check.lots(x, 3), 30);
        CHECK.due("of 4 still not", Check.lots(x, 4), NONE);
    }

    /** "(.. each once)" */
    private static void eachOnce() {
        LandRun x = threePeople();
        int[][] wrong = {{0, 0}, {2, 2}, {0, 1, 0}, {0, 1, 2, 2}, {2, 1, 0, 2}};
        for (int[] order : wrong) {
            CHECK.due("one told twice", Check.lots(x, order), NONE);
        }
        CHECK.due("twenty zeros", Check.lots(x, new int[20]), NONE);
        CHECK.due("two hundred zeros", Check.lots(x, new int[200]), NONE);
        drawn(x, NONE, NONE, NONE);
        CHECK.due("each once", Check.lots(x, 1, 0, 2), 60);
    }

    /** drawn is by "the latest lots() that was not NONE" */
    private static void noSuchOrderChangesNothing() {
        LandRun x = threePeople();
        Check.lots(x, 1, 2);
        drawn(x, NONE, 30, 20);
        CHECK.due("no such one", Check.lots(x, 0, 3), NONE);
        drawn(x, NONE, 30, 20);
        CHECK.due("one told twice", Check.lots(x, 0, 0), NONE);
        drawn(x, NONE, 30, 20);
        CHECK.due("a good one", Check.lots(x, 0), 30);
        drawn(x, 30, NONE, NONE);
    }

    private static void greatestWorth() {
        LandRun x = new LandRun();
        x.land(1, 98, 0);
        x.land(60, 99, 3);
        Check.lineman(x, 0, 1, 1, 1, 60, 2);
        CHECK.due("99 is more than 98", Check.lots(x, 0), 99);
        CHECK.due("it is 60", x.drawn(0), 60);
        LandRun y = new LandRun();
        y.land(60, 1, 0);
        Check.lineman(y, 0, 1, 1, 1, 60, 2);
        Check.lots(y, 0);
        CHECK.due("1 is more than 0", y.drawn(0), 60);
    }

    /** "of like ones the least": not the nearest, nor the one told first. */
    private static void leastOfLikeOnes() {
        LandRun x = new LandRun();
        Check.lineman(x, 7, 1, 1, 56, 8, 7, 63);
        Check.hidden(x, 63, 1, 1, 63, 8, 7);
        CHECK.due("without WORTH", Check.lots(x, 0, 1), 0);
        drawn(x, 7, 8);
        x.land(8, 5, 0);
        x.land(63, 5, 0);
        CHECK.due("of like WORTH", Check.lots(x, 1, 0), 10);
        drawn(x, 63, 8);
    }

    /** "if there is any": one KNOWS of nothing, or of what is taken. */
    private static void ifThereIsAny() {
        LandRun x = new LandRun();
        x.land(5, 7, 0);
        x.land(6, 4, 0);
        Check.lineman(x, 0, 1, 1);
        Check.lineman(x, 0, 1, 1, 5);
        Check.lineman(x, 0, 1, 1, 5);
        Check.lineman(x, 0, 1, 1, 5, 6);
        CHECK.due("lots", Check.lots(x, 0, 1, 2, 3), 11);
        drawn(x, NONE, 5, NONE, 6);
        CHECK.due("who KNOWS of nothing alone", Check.lots(x, 0), 0);
        drawn(x, NONE, NONE, NONE, NONE);
        // whoever takes nothing leaves QUARTER 0 to the next
        LandRun y = new LandRun();
        Check.lineman(y, 0, 1, 1);
        Check.lineman(y, 0, 1, 1, 0, 1);
        Check.lots(y, 0, 1);
        drawn(y, NONE, 0);
    }

    private static void firstAndLastQuarter() {
        LandRun x = new LandRun();
        x.land(0, 3, 0);
        x.land(63, 4, 0);
        Check.lineman(x, 0, 1, 1, 0, 63);
        Check.lineman(x, 0, 1, 1, 0, 63);
        Check.lineman(x, 0, 1, 1, 0, 63);
        CHECK.due("both are taken, each once", Check.lots(x, 2, 1, 0), 7);
        drawn(x, NONE, 0, 63);
    }

    private static void mostWorths() {
        LandRun x = new LandRun();
        int[] order = new int[30];
        for (int p = 0; p < 30; p++) {
            x.land(p, 99, 0);
            Check.lineman(x, 0, 1, 1, p);
            order[p] = 29 - p;
        }
        CHECK.due("thirty times 99", Check.lots(x, order), 2970);
        CHECK.due("drawn(29)", x.drawn(29), 29);
        int[] more = new int[31];
        System.arraycopy(order, 0, more, 0, 30);
        more[30] = 30;
        CHECK.due("an order of 31", Check.lots(x, more), NONE);
        CHECK.due("drawn(29) stays", x.drawn(29), 29);
    }

    private static void latestLots() {
        LandRun x = threePeople();
        Check.lots(x, 0);
        x.land(10, 99, 0);
        CHECK.due("what one took stays", x.drawn(0), 30);
        Check.lineman(x, 0, 1, 1, 30);
        CHECK.due("one who came later took nothing", x.drawn(3), NONE);
        CHECK.due("lots anew", Check.lots(x, 0), 99);
        CHECK.due("by the new WORTH", x.drawn(0), 10);
    }

    /** "NONE: nothing, no such one, or ahead of any" */
    private static void drawnOfNobody() {
        LandRun x = threePeople();
        drawn(x, NONE, NONE, NONE);
        Check.lots(x, 0, 1, 2);
        for (int p : new int[] {-1, 3, 29, 30, Integer.MIN_VALUE, Integer.MAX_VALUE}) {
            CHECK.due("drawn(" + p + ")", x.drawn(p), NONE);
        }
        CHECK.due("drawn(0)", x.drawn(0), 30);
        CHECK.due("drawn(2)", x.drawn(2), 10);
    }

    /** LOTS and the run are other ways to open the same land: none takes from the other. */
    private static void besideTheRun() {
        LandRun x = threePeople();
        Check.hidden(x, 30, 1, 1, 30);
        x.run(1);
        CHECK.due("staked(30)", x.staked(30), 3);
        CHECK.due("lots", Check.lots(x, 0, 3), 30);
        drawn(x, 30, NONE, NONE, NONE);
        CHECK.due("staked(30) still", x.staked(30), 3);
        CHECK.due("stakes", x.count(2), 1);
    }

    private static void tapeIsEmptyThen() {
        LandRun x = threePeople();
        Check.lots(x, 0, 1);
        CHECK.due("bytes behind lots", x.count(7), 0);
        Check.lots(x, 0, 3);
        CHECK.due("bytes behind no such order", x.count(7), 0);
    }
}
