/** Promises 15 and 16 at their edges, with JUDGED: judge and doubt. */
public final class JudgeEdgeTest {
    private static final Check CHECK = new Check("JudgeEdgeTest");
    private static final int NONE = LandRun.NONE;
    private static final int MIN = Integer.MIN_VALUE;
    private static final int MAX = Integer.MAX_VALUE;

    private JudgeEdgeTest() {
    }

    public static void main(String[] args) {
        noSuchQuarter();
        noClaimAndNoLawfulClaim();
        oneLawfulClaimAlone();
        endAheadOfTheBegin();
        aheadOfEachOther();
        atBothEndsOfTheRun();
        doubtIsAskedAlone();
        notBehindTheEndOfAnother();
        unlawfulOnesDoNotMatter();
        filedFirst();
        filedOnOneDay();
        youngest();
        likeAges();
        nobody();
        claimsAsOfADay();
        witnessesAsOfADay();
        lawOfNowOnAnyDay();
        sixtyClaimsToTwoQuarters();
        CHECK.finish();
    }

    private static void judged(LandRun x, int q, int day, int claim, int doubt) {
        CHECK.due("doubt(" + q + ", " + day + ")", x.doubt(q, day), doubt);
        CHECK.due("judge(" + q + ", " + day + ")", x.judge(q, day), claim);
    }

    /** A CLAIM to QUARTER 9 for each span, by PEOPLE of these ages. */
    private static LandRun claims(int[] ages, int[]... spans) {
        LandRun x = new LandRun();
        for (int p = 0; p < ages.length; p++) {
            Check.lineman(x, 0, 1, ages[p]);
            x.file(p, 9);
        }
        for (int k = 0; k < spans.length; k++) {
            x.witness(k, spans[k][0], spans[k][1]);
        }
        return x;
    }

    private static int[] told(int from, int to) {
        return new int[] {from, to};
    }

    private static int[] ages(int... ages) {
        return ages;
    }

    /** "NONE: .. or no such QUARTER" */
    private static void noSuchQuarter() {
        LandRun x = new LandRun();
        Check.lineman(x, 0, 1, 1);
        x.file(0, 0);
        x.file(0, 63);
        for (int q : new int[] {-1, 64, MIN, MAX}) {
            judged(x, q, 0, NONE, NONE);
        }
        judged(x, 0, 0, 0, 0);
        judged(x, 63, 0, 1, 0);
    }

    private static void noClaimAndNoLawfulClaim() {
        LandRun x = claims(ages(20, 30));
        judged(x, 8, 0, NONE, NONE);
        judged(x, 10, 0, NONE, NONE);
        judged(x, 9, 0, NONE, 1);
        Check.law(x, "doubt filed;age 31;");
        judged(x, 9, 0, NONE, NONE);
        Check.law(x, "doubt filed;proof 1;");
        judged(x, 9, 0, NONE, NONE);
    }

    /** "0 it is sure by SPANS (or one LAWFUL CLAIM alone)" */
    private static void oneLawfulClaimAlone() {
        LandRun x = claims(ages(20, 30));
        Check.law(x, "age 30;");
        judged(x, 9, 0, 1, 0);
        Check.law(x, "age 31;");
        judged(x, 9, 0, NONE, NONE);
        Check.law(x, "age 20;");
        judged(x, 9, 0, NONE, 1);
        LandRun y = claims(ages(20), told(0, 9999));
        judged(y, 9, 0, 0, 0);
    }

    /** "the one whose SPAN ends ahead of the begin of each other one's": in the same MINUTE is not ahead. */
    private static void endAheadOfTheBegin() {
        judged(claims(ages(20, 30), told(10, 19), told(20, 30)), 9, 0, 0, 0);
        judged(claims(ages(20, 30), told(10, 20), told(20, 30)), 9, 0, NONE, 1);
        judged(claims(ages(20, 30), told(20, 30), told(10, 19)), 9, 0, 1, 0);
        judged(claims(ages(20, 30), told(20, 30), told(10, 20)), 9, 0, NONE, 1);
        judged(claims(ages(20, 30), told(5, 5), told(5, 5)), 9, 0, NONE, 1);
        judged(claims(ages(20, 30), told(5, 5), told(6, 6)), 9, 0, 0, 0);
    }

    private static void aheadOfEachOther() {
        judged(claims(ages(1, 2, 3), told(10, 19), told(20, 30), told(20, 99)), 9, 0, 0, 0);
        judged(claims(ages(1, 2, 3), told(10, 19), told(20, 30), told(19, 99)), 9, 0, NONE, 1);
        judged(claims(ages(1, 2, 3), told(10, 20), told(21, 30), told(20, 99)), 9, 0, NONE, 1);
        judged(claims(ages(1, 2, 3), told(50, 60), told(40, 70), told(0, 39)), 9, 0, 2, 0);
        judged(claims(ages(1, 2, 3), told(50, 60), told(0, 39), told(40, 70)), 9, 0, 1, 0);
    }

    private static void atBothEndsOfTheRun() {
        judged(claims(ages(1, 2), told(0, 0), told(1, 9999)), 9, 0, 0, 0);
        judged(claims(ages(1, 2), told(0, 9998), told(9999, 9999)), 9, 0, 0, 0);
        judged(claims(ages(1, 2), told(0, 9999), told(9999, 9999)), 9, 0, NONE, 1);
        // without a WITNESS the SPAN begins in MINUTE 0
        judged(claims(ages(1, 2), told(0, 0)), 9, 0, NONE, 1);
    }

    /** doubt() ahead of any judge(), and of another QUARTER than judge() was asked for. */
    private static void doubtIsAskedAlone() {
        LandRun x = claims(ages(1, 2));
        CHECK.due("doubt first", x.doubt(9, 0), 1);
        x.file(0, 10);
        CHECK.due("judge(10)", x.judge(10, 0), 2);
        CHECK.due("doubt(9)", x.doubt(9, 0), 1);
        CHECK.due("judge(9)", x.judge(9, 0), NONE);
        CHECK.due("doubt(10)", x.doubt(10, 0), 0);
        CHECK.due("doubt(11)", x.doubt(11, 0), NONE);
        CHECK.due("judge(11)", x.judge(11, 0), NONE);
    }

    /** "of those whose SPAN does not begin behind the end of another one's" */
    private static void notBehindTheEndOfAnother() {
        // claim 2 is the youngest one's; it begins in the MINUTE in which claim 0 ends, then a MINUTE later
        LandRun x = claims(ages(30, 20, 10), told(10, 20), told(15, 40), told(20, 50));
        Check.law(x, "doubt young;");
        judged(x, 9, 0, 2, 1);
        LandRun y = claims(ages(30, 20, 10), told(10, 20), told(15, 40), told(21, 50));
        Check.law(y, "doubt young;");
        judged(y, 9, 0, 1, 1);
        // the first filed begins behind the end of the last one's
        LandRun z = claims(ages(10, 20, 30), told(31, 50), told(20, 40), told(10, 30));
        Check.law(z, "doubt filed;");
        judged(z, 9, 0, 1, 1);
        LandRun w = claims(ages(10, 20, 30), told(30, 50), told(20, 40), told(10, 30));
        Check.law(w, "doubt filed;");
        judged(w, 9, 0, 0, 1);
        // behind two of them, and behind one that is itself out
        LandRun v = claims(ages(40, 30, 20, 10), told(0, 10), told(5, 15), told(11, 20), told(21, 30));
        Check.law(v, "doubt young;");
        judged(v, 9, 0, 1, 1);
    }

    private static void unlawfulOnesDoNotMatter() {
        LandRun x = claims(ages(10, 20, 30), told(0, 5), told(10, 30), told(20, 40));
        Check.law(x, "doubt young;");
        judged(x, 9, 0, 0, 0);
        Check.law(x, "doubt young;age 11;");
        judged(x, 9, 0, 1, 1);
        Check.law(x, "doubt young;age 21;");
        judged(x, 9, 0, 2, 0);
    }

    /** "filed: the one FILED first" */
    private static void filedFirst() {
        LandRun x = new LandRun();
        for (int p = 0; p < 3; p++) {
            Check.lineman(x, 0, 1, 10 * p);
        }
        x.file(2, 9);
        x.wait(1);
        x.file(1, 9);
        x.file(0, 9);
        Check.law(x, "doubt filed;");
        judged(x, 9, 0, 0, 0);
        judged(x, 9, 1, 0, 1);
        x.witness(0, 9, 9);
        x.witness(1, 1, 8);
        x.witness(2, 2, 7);
        judged(x, 9, 1, 1, 1);
        judged(x, 9, 0, 0, 0);
    }

    /** "of one DAY the lesser number": of the CLAIM, not of the one who filed it. */
    private static void filedOnOneDay() {
        LandRun x = new LandRun();
        for (int p = 0; p < 3; p++) {
            Check.lineman(x, 0, 1, 10 * p);
        }
        x.wait(3);
        x.file(2, 9);
        x.file(0, 9);
        x.file(1, 9);
        Check.law(x, "doubt filed;");
        judged(x, 9, 3, 0, 1);
        Check.law(x, "doubt filed;proof 1;");
        x.witness(1, 5, 6);
        x.witness(2, 5, 6);
        judged(x, 9, 3, 1, 1);
    }

    /** "young: the one of the least AGE" */
    private static void youngest() {
        LandRun x = claims(ages(21, 20, 22, 0, 120));
        Check.law(x, "doubt young;");
        judged(x, 9, 0, 3, 1);
        Check.law(x, "doubt young;age 1;");
        judged(x, 9, 0, 1, 1);
        Check.law(x, "doubt young;age 21;");
        judged(x, 9, 0, 0, 1);
        Check.law(x, "doubt young;age 22;");
        judged(x, 9, 0, 2, 1);
        Check.law(x, "doubt young;age 23;");
        judged(x, 9, 0, 4, 0);
    }

    /** "of like ones the lesser number": not the one filed first by DAY alone, nor the lesser one of PEOPLE. */
    private static void likeAges() {
        LandRun x = new LandRun();
        for (int p = 0; p < 4; p++) {
            Check.lineman(x, 0, 1, p == 0 ? 30 : 20);
        }
        x.file(0, 9);
        x.file(3, 9);
        x.wait(1);
        x.file(2, 9);
        x.file(1, 9);
        Check.law(x, "doubt young;");
        judged(x, 9, 1, 1, 1);
        judged(x, 9, 0, 1, 1);
        x.witness(1, 9, 9);
        x.witness(2, 5, 8);
        judged(x, 9, 1, 2, 1);
    }

    /** "1 by doubt (nobody, too)" */
    private static void nobody() {
        LandRun x = claims(ages(20, 30));
        Check.law(x, "doubt nobody;");
        judged(x, 9, 0, NONE, 1);
        Check.law(x, "doubt nobody;age 30;");
        judged(x, 9, 0, 1, 0);
        Check.law(x, "doubt nobody;age 31;");
        judged(x, 9, 0, NONE, NONE);
    }

    private static void claimsAsOfADay() {
        LandRun x = new LandRun();
        Check.lineman(x, 0, 1, 1);
        Check.lineman(x, 0, 1, 1);
        x.wait(1);
        x.file(0, 9);
        x.wait(998);
        x.file(1, 9);
        judged(x, 9, MIN, NONE, NONE);
        judged(x, 9, -1, NONE, NONE);
        judged(x, 9, 0, NONE, NONE);
        judged(x, 9, 1, 0, 0);
        judged(x, 9, 998, 0, 0);
        judged(x, 9, 999, NONE, 1);
    }

    private static void witnessesAsOfADay() {
        LandRun x = claims(ages(20, 30));
        x.wait(2);
        x.witness(0, 10, 20);
        x.wait(2);
        x.witness(1, 1, 9);
        judged(x, 9, 1, NONE, 1);
        judged(x, 9, 3, NONE, 1);
        judged(x, 9, 4, 1, 0);
        Check.law(x, "proof 1;");
        judged(x, 9, 1, NONE, NONE);
        judged(x, 9, 2, 0, 0);
        judged(x, 9, 3, 0, 0);
        judged(x, 9, 4, 1, 0);
    }

    /** AS OF tells of CLAIMS and WITNESSES alone: the LAW is the one that there is. */
    private static void lawOfNowOnAnyDay() {
        LandRun x = claims(ages(20, 30));
        x.wait(5);
        Check.law(x, "doubt young;");
        judged(x, 9, 0, 0, 1);
        Check.law(x, "age 30;");
        judged(x, 9, 0, 1, 0);
    }

    private static void sixtyClaimsToTwoQuarters() {
        LandRun x = new LandRun();
        for (int p = 0; p < 30; p++) {
            Check.lineman(x, 0, 1, 60 - p);
            x.file(p, 9);
        }
        for (int p = 0; p < 30; p++) {
            x.file(p, 10);
        }
        judged(x, 9, 0, NONE, 1);
        Check.law(x, "doubt young;");
        judged(x, 9, 0, 29, 1);
        judged(x, 10, 0, 59, 1);
        Check.law(x, "doubt filed;");
        judged(x, 9, 0, 0, 1);
        judged(x, 10, 0, 30, 1);
    }
}
