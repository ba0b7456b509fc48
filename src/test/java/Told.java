import java.util.ArrayList;
import java.util.List;
import java.util.NoSuchElementException;

/** What an object tells, a line for each answer, to be laid beside what another one tells. */
final class Told {
    static final int THROWN = -9;
    private static final int MOST_LATER = 8;
    private static final int[] QUARTERS = {0, 1, 2, 3, 8, 9, 10, 16, 55, 62, 63};

    private final LandRun x;
    private final List<String> lines = new ArrayList<>();

    private Told(LandRun x) {
        this.x = x;
    }

    /** By calls that change nothing. */
    static List<String> now(LandRun x) {
        Told told = new Told(x);
        told.counts();
        told.people(x.count(1));
        told.claims();
        return told.lines;
    }

    /** By calls that change the object, so that what no call tells comes to light: the tape, the land, the bids. */
    static List<String> later(LandRun x) {
        Told told = new Told(x);
        told.tapeAndLaw();
        told.lotsAndBids();
        told.race();
        told.court();
        told.people(Math.min(x.count(1), MOST_LATER));
        return told.lines;
    }

    static int runner(LandRun x, int p, int what) {
        try {
            return x.runner(p, what);
        } catch (NoSuchElementException e) {
            return THROWN;
        }
    }

    private void add(String call, long answer) {
        lines.add(call + " = " + answer);
    }

    private void add(String call, boolean answer) {
        lines.add(call + " = " + answer);
    }

    private void counts() {
        for (int what = 0; what <= 7; what++) {
            add("count " + what, x.count(what));
        }
        for (int q : QUARTERS) {
            add("staked " + q, x.staked(q));
        }
    }

    /** Later not of all, since an object may be asked 512 times alone. */
    private void people(int many) {
        for (int p = 0; p < many; p++) {
            for (int what = 0; what <= 5; what++) {
                add("runner " + p + " " + what, x.runner(p, what));
            }
            add("drawn " + p, x.drawn(p));
            add("bought " + p, x.bought(p));
        }
    }

    private void claims() {
        int today = x.count(3);
        for (int k = 0; k < x.count(4); k++) {
            for (int what = 0; what <= 3; what++) {
                add("span " + k + " " + what, x.span(k, today, what));
            }
        }
        for (int q : QUARTERS) {
            add("judge " + q, x.judge(q, today));
            add("doubt " + q, x.doubt(q, today));
        }
    }

    private void tapeAndLaw() {
        add("law of what is on the tape", x.law());
        add("its fault", x.fault());
        add("judge 9 by it", x.judge(9, x.count(3)));
    }

    private void lotsAndBids() {
        for (int p = 0; p < 4; p++) {
            add("lots of " + p, Check.lots(x, p));
        }
        add("sell", x.sell());
    }

    private void race() {
        add("land", x.land(63, 1, 1));
        add("person", Check.lineman(x, 7, 2, 2, 63));
        add("run 1", x.run(1));
        add("run 6", x.run(6));
        add("runner 0 0", runner(x, 0, 0));
        add("run 1000", x.run(1000));
    }

    private void court() {
        add("file 0 62", x.file(0, 62));
        add("witness 0", x.witness(0, 3, 9));
        add("span 0 2", x.span(0, x.count(3), 2));
        add("wait 1", x.wait(1));
        add("judge 9 a day later", x.judge(9, x.count(3)));
    }
}
