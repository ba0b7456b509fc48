/** Promises 11 to 14: wait, file, witness and span. */
public final class ClaimTest {
    private static final Check CHECK = new Check("ClaimTest");

    private ClaimTest() {
    }

    public static void main(String[] args) {
        days();
        filing();
        sixtyClaims();
        witnesses();
        twoHundredWitnesses();
        spans();
        spansAsOfADay();
        lawful();
        CHECK.finish();
    }

    private static void days() {
        LandRun x = new LandRun();
        CHECK.yes("wait(0)", x.wait(0));
        CHECK.no("wait(-1)", x.wait(-1));
        CHECK.no("wait(1000)", x.wait(1000));
        CHECK.no("wait(MAX)", x.wait(Integer.MAX_VALUE));
        CHECK.no("wait(MIN)", x.wait(Integer.MIN_VALUE));
        CHECK.due("day", x.count(3), 0);
        CHECK.yes("wait(400)", x.wait(400));
        CHECK.no("wait(600)", x.wait(600));
        CHECK.due("day", x.count(3), 400);
        CHECK.yes("wait(599)", x.wait(599));
        CHECK.no("wait(1)", x.wait(1));
        CHECK.yes("wait(0) on the last day", x.wait(0));
        CHECK.due("day", x.count(3), 999);
        CHECK.yes("wait(999)", new LandRun().wait(999));
    }

    private static void filing() {
        LandRun x = new LandRun();
        Check.lineman(x, 0, 1, 1);
        Check.lineman(x, 0, 1, 1);
        CHECK.due("file(-1, 0)", x.file(-1, 0), LandRun.NONE);
        CHECK.due("file(2, 0)", x.file(2, 0), LandRun.NONE);
        CHECK.due("file(0, -1)", x.file(0, -1), LandRun.NONE);
        CHECK.due("file(0, 64)", x.file(0, 64), LandRun.NONE);
        CHECK.due("file(0, 63)", x.file(0, 63), 0);
        CHECK.due("again", x.file(0, 63), LandRun.NONE);
        CHECK.due("another one", x.file(1, 63), 1);
        CHECK.due("another quarter", x.file(0, 0), 2);
        x.wait(5);
        CHECK.due("again on another day", x.file(0, 63), LandRun.NONE);
        x.run(1);
        CHECK.due("behind the run's begin", x.file(1, 0), 3);
        CHECK.due("claims", x.count(4), 4);
    }

    private static void sixtyClaims() {
        LandRun x = new LandRun();
        Check.lineman(x, 0, 1, 1);
        for (int q = 0; q < 60; q++) {
            CHECK.due("file " + q, x.file(0, q), q);
        }
        CHECK.due("the 61st", x.file(0, 60), LandRun.NONE);
        CHECK.due("claims", x.count(4), 60);
        CHECK.due("the last one has its quarter", x.judge(59, 0), 59);
    }

    private static void witnesses() {
        LandRun x = new LandRun();
        Check.lineman(x, 0, 1, 1);
        x.file(0, 0);
        x.file(0, 1);
        CHECK.due("k -1", x.witness(-1, 0, 0), LandRun.NONE);
        CHECK.due("k 2", x.witness(2, 0, 0), LandRun.NONE);
        CHECK.due("from -1", x.witness(0, -1, 0), LandRun.NONE);
        CHECK.due("to 10000", x.witness(0, 0, 10000), LandRun.NONE);
        CHECK.due("from 10000", x.witness(0, 10000, 10000), LandRun.NONE);
        CHECK.due("to ahead of from", x.witness(0, 6, 5), LandRun.NONE);
        CHECK.due("witnesses", x.count(5), 0);
        CHECK.due("one minute", x.witness(0, 5, 5), 1);
        CHECK.due("all minutes", x.witness(0, 0, 9999), 2);
        CHECK.due("of the other claim", x.witness(1, 9999, 9999), 1);
        CHECK.due("the same again", x.witness(0, 5, 5), 3);
        CHECK.due("witnesses", x.count(5), 4);
    }

    private static void twoHundredWitnesses() {
        LandRun x = new LandRun();
        Check.lineman(x, 0, 1, 1);
        x.file(0, 0);
        x.file(0, 1);
        for (int i = 0; i < 150; i++) {
            CHECK.due("witness " + i, x.witness(0, i, 2 * i + 10), i + 1);
        }
        for (int i = 0; i < 50; i++) {
            CHECK.due("witness " + i, x.witness(1, i, 100), i + 1);
        }
        CHECK.due("the 201st", x.witness(1, 0, 1), LandRun.NONE);
        CHECK.due("the 201st of the other", x.witness(0, 0, 1), LandRun.NONE);
        CHECK.due("witnesses", x.count(5), 200);
        span(x, 1, 0, 49, 100, 50);
        // on minute 148 there are witnesses 69 to 148, on minute 149 witnesses 70 to 149
        span(x, 0, 0, 148, 148, 80);
    }

    private static void span(LandRun x, int k, int day, int from, int to, int agree) {
        CHECK.due("begin of " + k + " as of " + day, x.span(k, day, 0), from);
        CHECK.due("end of " + k + " as of " + day, x.span(k, day, 1), to);
        CHECK.due("agree on " + k + " as of " + day, x.span(k, day, 2), agree);
    }

    private static void spans() {
        LandRun x = new LandRun();
        Check.lineman(x, 0, 1, 1);
        for (int q = 0; q < 8; q++) {
            x.file(0, q);
        }
        span(x, 0, 0, 0, 9999, 0);
        x.witness(0, 9999, 9999);
        span(x, 0, 0, 9999, 9999, 1);
        // of like many the first minute, whoever told ahead
        x.witness(1, 50, 60);
        x.witness(1, 20, 30);
        x.witness(1, 70, 80);
        span(x, 1, 0, 20, 30, 1);
        // where one ends and another begins the same number agrees, but not the same ones
        x.witness(2, 10, 40);
        x.witness(2, 10, 19);
        x.witness(2, 20, 40);
        span(x, 2, 0, 10, 19, 2);
        // both ends count
        x.witness(3, 10, 20);
        x.witness(3, 20, 30);
        span(x, 3, 0, 20, 20, 2);
        // within one another
        x.witness(4, 0, 100);
        x.witness(4, 10, 90);
        x.witness(4, 40, 50);
        x.witness(4, 40, 95);
        span(x, 4, 0, 40, 50, 4);
        // those who are not of the span do not end it
        x.witness(5, 0, 12);
        x.witness(5, 0, 5);
        x.witness(5, 8, 30);
        x.witness(5, 9, 40);
        span(x, 5, 0, 9, 12, 3);
        // the same span twice
        x.witness(6, 7, 7);
        x.witness(6, 7, 7);
        x.witness(6, 3, 3);
        span(x, 6, 0, 7, 7, 2);
        // one who begins where the span has ended
        x.witness(7, 0, 5);
        x.witness(7, 6, 9);
        span(x, 7, 0, 0, 5, 1);
        CHECK.due("what 4", x.span(0, 0, 4), LandRun.NONE);
        CHECK.due("what -1", x.span(0, 0, -1), LandRun.NONE);
        CHECK.due("k 8", x.span(8, 0, 0), LandRun.NONE);
        CHECK.due("k -1", x.span(-1, 0, 0), LandRun.NONE);
    }

    private static void spansAsOfADay() {
        LandRun x = new LandRun();
        Check.lineman(x, 0, 1, 1);
        x.wait(3);
        x.file(0, 0);
        x.wait(2);
        x.witness(0, 10, 50);
        x.wait(1);
        x.witness(0, 40, 90);
        x.wait(4);
        x.witness(0, 5, 41);
        for (int what = 0; what < 4; what++) {
            CHECK.due("ahead of the claim", x.span(0, 2, what), LandRun.NONE);
            CHECK.due("ahead of all", x.span(0, Integer.MIN_VALUE, what), LandRun.NONE);
        }
        span(x, 0, 3, 0, 9999, 0);
        span(x, 0, 4, 0, 9999, 0);
        span(x, 0, 5, 10, 50, 1);
        span(x, 0, 6, 40, 50, 2);
        span(x, 0, 9, 40, 50, 2);
        span(x, 0, 10, 40, 41, 3);
        span(x, 0, 999, 40, 41, 3);
        Check.law(x, "proof 2;");
        CHECK.due("proof as of 5", x.span(0, 5, 3), 0);
        CHECK.due("proof as of 6", x.span(0, 6, 3), 1);
    }

    private static void lawful() {
        LandRun x = new LandRun();
        Check.lineman(x, 0, 1, 20);
        Check.hidden(x, 9, 1, 30);
        Check.lineman(x, 0, 1, 40);
        x.file(0, 0);
        x.wait(10);
        x.file(1, 0);
        x.wait(20);
        x.file(2, 0);
        x.file(2, 1);
        x.witness(1, 5, 6);
        x.witness(1, 6, 7);
        x.witness(1, 9, 9);
        lawful(x, "", 1, 1, 1, 1);
        lawful(x, "age 20;", 1, 1, 1, 1);
        lawful(x, "age 21;", 0, 1, 1, 1);
        lawful(x, "age 30;", 0, 1, 1, 1);
        lawful(x, "age 31;", 0, 0, 1, 1);
        lawful(x, "hidden barred;", 1, 0, 1, 1);
        lawful(x, "hidden heard;", 1, 1, 1, 1);
        lawful(x, "proof 0;", 1, 1, 1, 1);
        lawful(x, "proof 1;", 0, 1, 0, 0);
        lawful(x, "proof 2;", 0, 1, 0, 0);
        lawful(x, "proof 3;", 0, 0, 0, 0);
        lawful(x, "days 0;", 1, 0, 0, 1);
        lawful(x, "days 9;", 1, 0, 0, 1);
        lawful(x, "days 10;", 1, 1, 0, 1);
        lawful(x, "days 29;", 1, 1, 0, 1);
        lawful(x, "days 30;", 1, 1, 1, 1);
        // the first claim counts for the days, even if it is not lawful
        lawful(x, "days 29;age 30;", 0, 1, 0, 1);
    }

    private static void lawful(LandRun x, String text, int... due) {
        Check.law(x, text);
        for (int k = 0; k < due.length; k++) {
            CHECK.due("claim " + k + " by '" + text + "'", x.span(k, 999, 3), due[k]);
        }
    }
}
