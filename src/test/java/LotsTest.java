/** Promises 17 and 18: lots and drawn. */
public final class LotsTest {
    private static final Check CHECK = new Check("LotsTest");

    private LotsTest() {
    }

    public static void main(String[] args) {
        takesInOrder();
        wrongOrders();
        everyone();
        CHECK.finish();
    }

    private static void drawn(LandRun x, int... due) {
        for (int p = 0; p < due.length; p++) {
            CHECK.due("drawn(" + p + ")", x.drawn(p), due[p]);
        }
    }

    private static LandRun threePeople() {
        LandRun x = new LandRun();
        x.land(10, 7, 0);
        x.land(20, 7, 3);
        x.land(30, 9, 0);
        Check.lineman(x, 0, 1, 1, 20, 10, 40);
        Check.lineman(x, 0, 1, 1, 10, 30, 20);
        Check.lineman(x, 0, 1, 1, 30);
        return x;
    }

    private static void takesInOrder() {
        LandRun x = threePeople();
        drawn(x, -1, -1, -1, -1);
        CHECK.due("lots 0 1 2", Check.lots(x, 0, 1, 2), 16);
        drawn(x, 10, 30, -1, -1);
        CHECK.due("lots 2 1 0", Check.lots(x, 2, 1, 0), 23);
        drawn(x, 20, 10, 30, -1);
        CHECK.due("lots 1 0", Check.lots(x, 1, 0), 16);
        drawn(x, 10, 30, -1, -1);
        CHECK.due("lots 2", Check.lots(x, 2), 9);
        drawn(x, -1, -1, 30, -1);
        CHECK.due("lots of nobody", Check.lots(x), 0);
        drawn(x, -1, -1, -1, -1);
        CHECK.due("drawn(-1)", x.drawn(-1), LandRun.NONE);
        CHECK.due("drawn(30)", x.drawn(30), LandRun.NONE);
        // a quarter without worth is taken too, and the run's stakes do not matter
        Check.hidden(x, 10, 1, 1, 10);
        x.run(1);
        CHECK.due("staked(10)", x.staked(10), 3);
        CHECK.due("lots 3 2 1 0", Check.lots(x, 3, 2, 1, 0), 23);
        drawn(x, 40, 20, 30, 10);
    }

    private static void wrongOrders() {
        LandRun x = threePeople();
        Check.lots(x, 0);
        int[][] wrong = {{3}, {255}, {0, 0}, {1, 2, 1}, {0, 1, 2, 3}, {2, 128}};
        for (int[] order : wrong) {
            CHECK.due("a wrong order", Check.lots(x, order), LandRun.NONE);
            drawn(x, 10, -1, -1);
        }
    }

    private static void everyone() {
        LandRun x = new LandRun();
        int[] order = new int[30];
        for (int p = 0; p < 30; p++) {
            x.land(p, p, 0);
            Check.lineman(x, 0, 1, 1, p, p == 29 ? 28 : 29);
            order[p] = p;
        }
        // the first takes 29, so the last one must see whether 28 is free, which it is not
        CHECK.due("lots of 30", Check.lots(x, order), 435);
        CHECK.due("drawn(0)", x.drawn(0), 29);
        CHECK.due("drawn(28)", x.drawn(28), 28);
        CHECK.due("drawn(29)", x.drawn(29), LandRun.NONE);
        int[] longer = new int[31];
        System.arraycopy(order, 0, longer, 0, 30);
        CHECK.due("lots of 31", Check.lots(x, longer), LandRun.NONE);
    }
}
