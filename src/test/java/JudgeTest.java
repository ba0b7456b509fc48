/** Promises 15 and 16: judge and doubt. */
public final class JudgeTest {
    private static final Check CHECK = new Check("JudgeTest");

    private JudgeTest() {
    }

    public static void main(String[] args) {
        noClaims();
        sureBySpans();
        endMustBeAhead();
        doubtAmongThoseWhoAreNotBehind();
        onlyOneBehind();
        doubtFiled();
        doubtYoung();
        asOfADay();
        unlawfulClaimsDoNotCount();
        CHECK.finish();
    }

    private static LandRun threePeople() {
        LandRun x = new LandRun();
        Check.lineman(x, 0, 1, 50);
        Check.lineman(x, 0, 1, 30);
        Check.hidden(x, 9, 1, 40);
        return x;
    }

    private static void judged(LandRun x, int q, int day, int claim, int doubt) {
        CHECK.due("judge(" + q + ", " + day + ")", x.judge(q, day), claim);
        CHECK.due("doubt(" + q + ", " + day + ")", x.doubt(q, day), doubt);
    }

    private static void noClaims() {
        LandRun x = threePeople();
        x.file(0, 5);
        judged(x, 4, 0, LandRun.NONE, LandRun.NONE);
        judged(x, -1, 0, LandRun.NONE, LandRun.NONE);
        judged(x, 64, 0, LandRun.NONE, LandRun.NONE);
        judged(x, 5, 0, 0, 0);
        judged(x, 5, -1, LandRun.NONE, LandRun.NONE);
    }

    private static void sureBySpans() {
        LandRun x = threePeople();
        x.file(0, 5);
        x.file(1, 5);
        x.file(2, 5);
        x.witness(0, 40, 60);
        x.witness(1, 30, 50);
        x.witness(2, 10, 29);
        judged(x, 5, 0, 2, 0);
        // the others' spans may meet
        Check.law(x, "doubt filed;");
        judged(x, 5, 0, 2, 0);
    }

    private static void endMustBeAhead() {
        LandRun x = threePeople();
        x.file(0, 5);
        x.file(1, 5);
        x.witness(0, 10, 30);
        x.witness(1, 30, 40);
        judged(x, 5, 0, LandRun.NONE, 1);
        Check.law(x, "doubt young;");
        judged(x, 5, 0, 1, 1);
        x.witness(0, 10, 29);
        judged(x, 5, 0, 0, 0);
    }

    private static void doubtAmongThoseWhoAreNotBehind() {
        LandRun x = threePeople();
        x.file(1, 5);
        x.file(0, 5);
        x.file(2, 5);
        x.witness(0, 100, 200);
        x.witness(1, 10, 50);
        x.witness(2, 50, 300);
        judged(x, 5, 0, LandRun.NONE, 1);
        // claim 0 is the first filed and the youngest one's, but begins behind the end of claim 1
        Check.law(x, "doubt filed;");
        judged(x, 5, 0, 1, 1);
        Check.law(x, "doubt young;");
        judged(x, 5, 0, 2, 1);
        Check.law(x, "doubt nobody;");
        judged(x, 5, 0, LandRun.NONE, 1);
    }

    private static void onlyOneBehind() {
        LandRun x = threePeople();
        x.file(0, 5);
        x.file(1, 5);
        x.file(2, 5);
        x.witness(0, 10, 20);
        x.witness(1, 21, 40);
        x.witness(2, 15, 30);
        // claim 1 is the youngest one's, and begins behind the end of claim 0 alone
        Check.law(x, "doubt young;");
        judged(x, 5, 0, 2, 1);
        Check.law(x, "doubt young;hidden barred;");
        judged(x, 5, 0, 0, 0);
        Check.law(x, "doubt young;age 50;");
        judged(x, 5, 0, 0, 0);
    }

    private static void doubtFiled() {
        LandRun x = threePeople();
        x.wait(1);
        x.file(2, 5);
        x.file(1, 5);
        x.wait(1);
        x.file(0, 5);
        Check.law(x, "doubt filed;");
        judged(x, 5, 2, 0, 1);
        Check.law(x, "doubt filed;hidden barred;");
        judged(x, 5, 2, 1, 1);
        Check.law(x, "doubt filed;age 50;");
        judged(x, 5, 2, 2, 0);
    }

    private static void doubtYoung() {
        LandRun x = new LandRun();
        Check.lineman(x, 0, 1, 30);
        Check.lineman(x, 0, 1, 20);
        Check.lineman(x, 0, 1, 20);
        Check.lineman(x, 0, 1, 10);
        x.file(0, 5);
        x.file(2, 5);
        x.file(1, 5);
        x.file(3, 5);
        Check.law(x, "doubt young;");
        judged(x, 5, 0, 3, 1);
        Check.law(x, "doubt young;age 11;");
        judged(x, 5, 0, 1, 1);
        Check.law(x, "doubt young;age 21;");
        judged(x, 5, 0, 0, 0);
    }

    private static void asOfADay() {
        LandRun x = threePeople();
        x.wait(2);
        x.file(0, 5);
        x.wait(2);
        x.file(1, 5);
        x.wait(2);
        x.witness(1, 10, 20);
        x.wait(2);
        x.witness(0, 21, 30);
        x.wait(2);
        x.file(2, 5);
        x.witness(2, 1, 9);
        judged(x, 5, 1, LandRun.NONE, LandRun.NONE);
        judged(x, 5, 2, 0, 0);
        judged(x, 5, 3, 0, 0);
        judged(x, 5, 4, LandRun.NONE, 1);
        judged(x, 5, 6, LandRun.NONE, 1);
        judged(x, 5, 8, 1, 0);
        judged(x, 5, 9, 1, 0);
        judged(x, 5, 10, 2, 0);
        judged(x, 5, 999, 2, 0);
        // the law of today judges the days ahead of it, too
        Check.law(x, "hidden barred;doubt filed;");
        judged(x, 5, 10, 1, 0);
        judged(x, 5, 6, 0, 1);
    }

    private static void unlawfulClaimsDoNotCount() {
        LandRun x = threePeople();
        x.file(0, 5);
        x.file(1, 5);
        x.file(2, 5);
        x.witness(0, 40, 60);
        x.witness(1, 61, 70);
        x.witness(2, 10, 50);
        judged(x, 5, 0, LandRun.NONE, 1);
        Check.law(x, "hidden barred;");
        judged(x, 5, 0, 0, 0);
        Check.law(x, "proof 2;");
        judged(x, 5, 0, LandRun.NONE, LandRun.NONE);
        Check.law(x, "age 120;");
        judged(x, 5, 0, LandRun.NONE, LandRun.NONE);
    }
}
