/** Promises 11 to 14 at their edges, with SPAN and LAWFUL: wait, file, witness and span. */
public final class ClaimEdgeTest {
    private static final Check CHECK = new Check("ClaimEdgeTest");
    private static final int NONE = LandRun.NONE;
    private static final int MIN = Integer.MIN_VALUE;
    private static final int MAX = Integer.MAX_VALUE;

    private ClaimEdgeTest() {
    }

    public static void main(String[] args) {
        wait0To999();
        waitNotBeyond999();
        fileOfNoSuchOnes();
        fileOncePerQuarter();
        upToSixtyClaims();
        fileOnTheLastDay();
        witnessOfNoClaim();
        witnessMinutes0To9999();
        witnessNotAheadOfFrom();
        howManyTheClaimHas();
        upTo200Witnesses();
        spanOfNoClaim();
        spanOfNothingSuch();
        spanAheadOfItsDay();
        witnessesOfThatDayOrAhead();
        daysBeyondAll();
        spanWithoutWitnesses();
        spanOfOneMinute();
        spanAtBothEndsOfTheRun();
        spansThatMeet();
        spansSideBySide();
        firstOfLikeSpans();
        sameOnesAndNoOthers();
        lawfulByAge();
        lawfulByHiding();
        lawfulByProof();
        lawfulByNineWitnesses();
        lawfulByDays();
        daysBehindTheFirstClaim();
        CHECK.finish();
    }

    /** "DAY goes on by n (0 to 999): true; false, if it is not so" */
    private static void wait0To999() {
        LandRun x = new LandRun();
        CHECK.yes("wait(0)", x.wait(0));
        CHECK.due("DAY", x.count(3), 0);
        for (int n : new int[] {-1, 1000, MIN, MAX}) {
            CHECK.no("wait(" + n + ")", x.wait(n));
            CHECK.due("DAY", x.count(3), 0);
        }
        CHECK.yes("wait(999)", x.wait(999));
        CHECK.due("DAY", x.count(3), 999);
        LandRun y = new LandRun();
        CHECK.yes("wait(1)", y.wait(1));
        CHECK.due("DAY", y.count(3), 1);
        CHECK.no("wait(-1) on DAY 1", y.wait(-1));
        CHECK.due("DAY", y.count(3), 1);
    }

    /** "or beyond 999" */
    private static void waitNotBeyond999() {
        LandRun x = new LandRun();
        x.wait(1);
        CHECK.no("wait(999) on DAY 1", x.wait(999));
        CHECK.due("DAY", x.count(3), 1);
        CHECK.yes("wait(998) on DAY 1", x.wait(998));
        CHECK.due("DAY", x.count(3), 999);
        for (int n : new int[] {1, 999, MAX}) {
            CHECK.no("wait(" + n + ") on DAY 999", x.wait(n));
        }
        CHECK.yes("wait(0) on DAY 999", x.wait(0));
        CHECK.due("DAY", x.count(3), 999);
    }

    private static LandRun twoPeople() {
        LandRun x = new LandRun();
        Check.lineman(x, 0, 1, 20);
        Check.lineman(x, 0, 1, 30);
        return x;
    }

    /** "NONE: .. no such ones" */
    private static void fileOfNoSuchOnes() {
        LandRun x = twoPeople();
        for (int p : new int[] {-1, 2, 29, 30, MIN, MAX}) {
            CHECK.due("file(" + p + ", 5)", x.file(p, 5), NONE);
        }
        for (int q : new int[] {-1, 64, MIN, MAX}) {
            CHECK.due("file(0, " + q + ")", x.file(0, q), NONE);
        }
        CHECK.due("CLAIMS", x.count(4), 0);
        CHECK.due("file(0, 0)", x.file(0, 0), 0);
        CHECK.due("file(1, 63)", x.file(1, 63), 1);
        CHECK.due("CLAIMS", x.count(4), 2);
        CHECK.due("0 has 0", x.judge(0, 0), 0);
        CHECK.due("1 has 63", x.judge(63, 0), 1);
    }

    /** "or that one has a CLAIM to that QUARTER" */
    private static void fileOncePerQuarter() {
        LandRun x = twoPeople();
        CHECK.due("0 to 9", x.file(0, 9), 0);
        CHECK.due("0 to 9 again", x.file(0, 9), NONE);
        CHECK.due("1 to 9", x.file(1, 9), 1);
        CHECK.due("0 to 10", x.file(0, 10), 2);
        x.wait(7);
        CHECK.due("0 to 9 on another DAY", x.file(0, 9), NONE);
        CHECK.due("1 to 9 on another DAY", x.file(1, 9), NONE);
        CHECK.due("the CLAIM is still of DAY 0", x.span(0, 0, 0), 0);
        CHECK.due("CLAIMS", x.count(4), 3);
        CHECK.due("1 to 10", x.file(1, 10), 3);
        CHECK.due("which is of DAY 7", x.span(3, 6, 0), NONE);
    }

    private static void upToSixtyClaims() {
        LandRun x = twoPeople();
        for (int k = 0; k < 60; k++) {
            CHECK.due("one more", x.file(k / 30, k % 30), k);
        }
        CHECK.due("CLAIMS", x.count(4), 60);
        CHECK.due("the 61st", x.file(0, 63), NONE);
        CHECK.due("the 61st by another one", x.file(1, 63), NONE);
        CHECK.due("CLAIMS", x.count(4), 60);
        CHECK.due("nobody's", x.judge(63, 0), NONE);
        CHECK.due("without a CLAIM", x.doubt(63, 0), NONE);
        CHECK.due("the 60th has WITNESSES", x.witness(59, 5, 6), 1);
        CHECK.due("no 61st has", x.witness(60, 5, 6), NONE);
        CHECK.due("SPAN of the 60th", x.span(59, 0, 1), 6);
        CHECK.due("SPAN of no 61st", x.span(60, 0, 1), NONE);
    }

    private static void fileOnTheLastDay() {
        LandRun x = twoPeople();
        x.wait(999);
        CHECK.due("a CLAIM of DAY 999", x.file(0, 9), 0);
        x.witness(0, 4, 5);
        CHECK.due("counts AS OF 999", x.span(0, 999, 2), 1);
        CHECK.due("not AS OF 998", x.span(0, 998, 2), NONE);
    }

    private static LandRun twoClaims() {
        LandRun x = twoPeople();
        x.file(0, 9);
        x.file(1, 9);
        return x;
    }

    private static void witnessOfNoClaim() {
        LandRun x = twoPeople();
        CHECK.due("without CLAIMS", x.witness(0, 1, 2), NONE);
        x.file(0, 9);
        for (int k : new int[] {-1, 1, 59, 60, MIN, MAX}) {
            CHECK.due("witness(" + k + ")", x.witness(k, 1, 2), NONE);
        }
        CHECK.due("WITNESSES", x.count(5), 0);
        CHECK.due("agree", x.span(0, 0, 2), 0);
        CHECK.due("witness(0)", x.witness(0, 1, 2), 1);
    }

    /** "MINUTES from .. to (0 to 9999 ..)" */
    private static void witnessMinutes0To9999() {
        LandRun x = twoClaims();
        int[][] wrong = {{-1, 5}, {MIN, 5}, {5, 10000}, {5, MAX}, {10000, 10000}, {-1, -1}, {-1, 10000}, {MIN, MAX}};
        for (int[] w : wrong) {
            CHECK.due("from " + w[0] + " to " + w[1], x.witness(0, w[0], w[1]), NONE);
            CHECK.due("WITNESSES", x.count(5), 0);
        }
        CHECK.due("agree", x.span(0, 0, 2), 0);
        CHECK.due("from 0 to 9999", x.witness(0, 0, 9999), 1);
        CHECK.due("from 0 to 0", x.witness(0, 0, 0), 2);
        CHECK.due("from 9999 to 9999", x.witness(0, 9999, 9999), 3);
        CHECK.due("WITNESSES", x.count(5), 3);
    }

    /** "to not ahead of from" */
    private static void witnessNotAheadOfFrom() {
        LandRun x = twoClaims();
        CHECK.due("from 5 to 4", x.witness(0, 5, 4), NONE);
        CHECK.due("from 9999 to 0", x.witness(0, 9999, 0), NONE);
        CHECK.due("from 1 to 0", x.witness(0, 1, 0), NONE);
        CHECK.due("WITNESSES", x.count(5), 0);
        CHECK.due("from 5 to 5", x.witness(0, 5, 5), 1);
        CHECK.due("from 4 to 5", x.witness(0, 4, 5), 2);
    }

    /** "how many it has": the CLAIM, of all DAYS. */
    private static void howManyTheClaimHas() {
        LandRun x = twoClaims();
        CHECK.due("the first of 0", x.witness(0, 1, 2), 1);
        CHECK.due("the first of 1", x.witness(1, 1, 2), 1);
        x.wait(1);
        CHECK.due("the second of 1", x.witness(1, 1, 2), 2);
        CHECK.due("the second of 0", x.witness(0, 7, 8), 2);
        CHECK.due("all", x.count(5), 4);
    }

    /** "NONE: there are 200": of all CLAIMS together. */
    private static void upTo200Witnesses() {
        LandRun x = twoClaims();
        for (int i = 1; i <= 199; i++) {
            CHECK.due("one more", x.witness(0, 3, 9), i);
        }
        CHECK.due("the 200th", x.witness(1, 4, 5), 1);
        CHECK.due("WITNESSES", x.count(5), 200);
        CHECK.due("the 201st", x.witness(1, 5, 5), NONE);
        CHECK.due("the 201st of the other CLAIM", x.witness(0, 5, 5), NONE);
        x.wait(1);
        CHECK.due("the 201st on another DAY", x.witness(1, 5, 5), NONE);
        CHECK.due("WITNESSES", x.count(5), 200);
        span(x, 0, 1, 3, 9, 199);
        span(x, 1, 1, 4, 5, 1);
    }

    private static void span(LandRun x, int k, int day, int from, int to, int agree) {
        CHECK.due("begin of " + k + " AS OF " + day, x.span(k, day, 0), from);
        CHECK.due("end of " + k + " AS OF " + day, x.span(k, day, 1), to);
        CHECK.due("agree on " + k + " AS OF " + day, x.span(k, day, 2), agree);
    }

    private static void noSpan(LandRun x, int k, int day) {
        for (int what = 0; what <= 3; what++) {
            CHECK.due("span(" + k + ", " + day + ", " + what + ")", x.span(k, day, what), NONE);
        }
    }

    private static void spanOfNoClaim() {
        LandRun x = twoPeople();
        noSpan(x, 0, 0);
        x.file(0, 9);
        for (int k : new int[] {-1, 1, 59, 60, MIN, MAX}) {
            noSpan(x, k, 0);
        }
        span(x, 0, 0, 0, 9999, 0);
    }

    private static void spanOfNothingSuch() {
        LandRun x = twoClaims();
        for (int what : new int[] {-1, 4, MIN, MAX}) {
            CHECK.due("what " + what, x.span(0, 0, what), NONE);
        }
        CHECK.due("what 0", x.span(0, 0, 0), 0);
        CHECK.due("what 3", x.span(0, 0, 3), 1);
    }

    /** "AS OF a DAY count CLAIMS .. of that DAY or ahead"; "NONE: it does not count then" */
    private static void spanAheadOfItsDay() {
        LandRun x = twoPeople();
        x.file(0, 9);
        x.wait(4);
        x.file(1, 9);
        noSpan(x, 0, -1);
        noSpan(x, 0, MIN);
        span(x, 0, 0, 0, 9999, 0);
        noSpan(x, 1, 3);
        noSpan(x, 1, 0);
        noSpan(x, 1, -1);
        span(x, 1, 4, 0, 9999, 0);
        span(x, 1, 5, 0, 9999, 0);
    }

    /** "AS OF a DAY count .. WITNESSES of that DAY or ahead" */
    private static void witnessesOfThatDayOrAhead() {
        LandRun x = twoPeople();
        x.file(0, 9);
        x.witness(0, 100, 200);
        x.wait(6);
        x.witness(0, 150, 250);
        x.wait(993);
        x.witness(0, 180, 190);
        span(x, 0, 0, 100, 200, 1);
        span(x, 0, 5, 100, 200, 1);
        span(x, 0, 6, 150, 200, 2);
        span(x, 0, 998, 150, 200, 2);
        span(x, 0, 999, 180, 190, 3);
        Check.law(x, "proof 2;");
        CHECK.due("LAWFUL AS OF 5", x.span(0, 5, 3), 0);
        CHECK.due("LAWFUL AS OF 6", x.span(0, 6, 3), 1);
        // what was asked last does not matter
        span(x, 0, 0, 100, 200, 1);
    }

    /** DAYS that are still to come: all that there is counts. */
    private static void daysBeyondAll() {
        LandRun x = twoClaims();
        x.wait(3);
        x.witness(0, 5, 6);
        span(x, 0, 4, 5, 6, 1);
        span(x, 0, 999, 5, 6, 1);
        CHECK.due("judged on a DAY to come", x.judge(9, 999), NONE);
        CHECK.due("with doubt", x.doubt(9, 999), 1);
    }

    /** "without WITNESSES 0 to 9999" */
    private static void spanWithoutWitnesses() {
        LandRun x = twoClaims();
        x.witness(1, 5, 6);
        span(x, 0, 0, 0, 9999, 0);
        span(x, 1, 0, 5, 6, 1);
        LandRun y = twoPeople();
        y.file(0, 9);
        y.wait(1);
        y.witness(0, 5, 6);
        span(y, 0, 0, 0, 9999, 0);
        span(y, 0, 1, 5, 6, 1);
        span(y, 0, 0, 0, 9999, 0);
    }

    private static LandRun claimWith(int[]... witnesses) {
        LandRun x = twoPeople();
        x.file(0, 9);
        for (int[] w : witnesses) {
            x.witness(0, w[0], w[1]);
        }
        return x;
    }

    /** The WITNESSES in each of two orders: who told first does not matter. */
    private static void spanOf(int from, int to, int agree, int[]... witnesses) {
        span(claimWith(witnesses), 0, 0, from, to, agree);
        int[][] turned = new int[witnesses.length][];
        for (int i = 0; i < witnesses.length; i++) {
            turned[i] = witnesses[witnesses.length - 1 - i];
        }
        span(claimWith(turned), 0, 0, from, to, agree);
    }

    private static int[] told(int from, int to) {
        return new int[] {from, to};
    }

    private static void spanOfOneMinute() {
        spanOf(0, 0, 1, told(0, 0));
        spanOf(5, 5, 1, told(5, 5));
        spanOf(9999, 9999, 1, told(9999, 9999));
        spanOf(5, 5, 2, told(5, 5), told(5, 5));
    }

    private static void spanAtBothEndsOfTheRun() {
        spanOf(0, 9999, 1, told(0, 9999));
        spanOf(0, 9999, 2, told(0, 9999), told(0, 9999));
        spanOf(0, 9998, 2, told(0, 9999), told(0, 9998));
        spanOf(1, 9999, 2, told(0, 9999), told(1, 9999));
        spanOf(9999, 9999, 2, told(0, 9999), told(9999, 9999));
        spanOf(0, 0, 2, told(0, 9999), told(0, 0));
    }

    private static void spansThatMeet() {
        spanOf(20, 20, 2, told(10, 20), told(20, 30));
        spanOf(20, 21, 2, told(10, 21), told(20, 30));
        spanOf(10, 19, 1, told(10, 19), told(20, 30));
        spanOf(20, 20, 3, told(10, 20), told(20, 30), told(20, 20));
    }

    /** The first ends where the next begins: as many agree there, but not the same ones. */
    private static void spansSideBySide() {
        spanOf(0, 4, 1, told(0, 4), told(5, 9));
        spanOf(10, 14, 2, told(10, 20), told(10, 14), told(15, 20));
        spanOf(0, 0, 2, told(0, 9999), told(0, 0), told(1, 1));
        spanOf(3, 4, 2, told(1, 4), told(3, 6), told(5, 8));
    }

    private static void firstOfLikeSpans() {
        spanOf(1, 2, 1, told(5, 9), told(1, 2), told(3, 4));
        spanOf(40, 45, 2, told(40, 50), told(30, 45), told(70, 80), told(75, 90));
        spanOf(75, 80, 3, told(40, 50), told(30, 45), told(70, 80), told(75, 90), told(71, 99));
        spanOf(1, 1, 1, told(3, 3), told(1, 1), told(2, 2));
    }

    /** "up to which the same ones do, all of them and no other ones" */
    private static void sameOnesAndNoOthers() {
        spanOf(9, 12, 3, told(0, 12), told(0, 5), told(8, 30), told(9, 40));
        spanOf(50, 60, 3, told(0, 60), told(10, 70), told(50, 80), told(61, 99));
        spanOf(10, 10, 2, told(0, 10), told(10, 19), told(19, 30));
        spanOf(5, 5, 3, told(0, 5), told(5, 10), told(1, 9), told(6, 7));
    }

    private static void lawful(LandRun x, int k, String text, int due) {
        Check.law(x, text);
        CHECK.due("CLAIM " + k + " by '" + text + "'", x.span(k, x.count(3), 3), due);
    }

    /** "the AGE is age at least" */
    private static void lawfulByAge() {
        LandRun x = twoClaims();
        lawful(x, 0, "age 19;", 1);
        lawful(x, 0, "age 20;", 1);
        lawful(x, 0, "age 21;", 0);
        lawful(x, 1, "age 30;", 1);
        lawful(x, 1, "age 31;", 0);
        lawful(x, 1, "age 120;", 0);
    }

    /** "the one did not HIDE, or hidden tells heard" */
    private static void lawfulByHiding() {
        LandRun x = new LandRun();
        Check.lineman(x, 0, 1, 20);
        Check.hidden(x, 0, 1, 20);
        x.file(0, 9);
        x.file(1, 9);
        lawful(x, 0, "hidden barred;", 1);
        lawful(x, 1, "hidden barred;", 0);
        lawful(x, 0, "hidden heard;", 1);
        lawful(x, 1, "hidden heard;", 1);
        lawful(x, 1, "", 1);
    }

    /** "as many as proof tells AGREE at least": those of the SPAN, not all. */
    private static void lawfulByProof() {
        LandRun x = twoClaims();
        lawful(x, 0, "proof 0;", 1);
        lawful(x, 0, "proof 1;", 0);
        x.witness(0, 1, 5);
        lawful(x, 0, "proof 1;", 1);
        lawful(x, 0, "proof 2;", 0);
        x.witness(0, 6, 9);
        lawful(x, 0, "proof 2;", 0);
        x.witness(0, 5, 6);
        lawful(x, 0, "proof 2;", 1);
        lawful(x, 0, "proof 3;", 0);
        lawful(x, 1, "proof 1;", 0);
    }

    private static void lawfulByNineWitnesses() {
        LandRun x = twoClaims();
        for (int i = 0; i < 8; i++) {
            x.witness(0, 1, 5);
        }
        lawful(x, 0, "proof 9;", 0);
        x.witness(0, 5, 5);
        lawful(x, 0, "proof 9;", 1);
        x.witness(0, 5, 5);
        lawful(x, 0, "proof 9;", 1);
    }

    /** "FILED no more than days behind the first CLAIM to that QUARTER" */
    private static void lawfulByDays() {
        LandRun x = twoPeople();
        x.wait(2);
        x.file(0, 9);
        x.wait(10);
        x.file(1, 9);
        lawful(x, 1, "days 9;", 0);
        lawful(x, 1, "days 10;", 1);
        lawful(x, 1, "days 11;", 1);
        lawful(x, 1, "days 0;", 0);
        lawful(x, 0, "days 0;", 1);
        LandRun y = twoClaims();
        lawful(y, 0, "days 0;", 1);
        lawful(y, 1, "days 0;", 1);
        LandRun z = twoPeople();
        z.file(0, 9);
        z.wait(999);
        z.file(1, 9);
        lawful(z, 1, "days 998;", 0);
        lawful(z, 1, "days 999;", 1);
    }

    /** The first CLAIM to that QUARTER, be it LAWFUL or not; not one to another QUARTER, nor the one just ahead. */
    private static void daysBehindTheFirstClaim() {
        LandRun x = new LandRun();
        Check.lineman(x, 0, 1, 10);
        Check.lineman(x, 0, 1, 20);
        Check.lineman(x, 0, 1, 30);
        x.file(0, 8);
        x.wait(5);
        x.file(0, 9);
        x.wait(5);
        x.file(1, 9);
        x.wait(5);
        x.file(2, 9);
        lawful(x, 2, "days 5;", 1);
        lawful(x, 2, "days 4;", 0);
        lawful(x, 3, "days 10;", 1);
        lawful(x, 3, "days 9;", 0);
        lawful(x, 3, "days 5;age 20;", 0);
        lawful(x, 3, "days 10;age 30;", 1);
        lawful(x, 1, "days 0;", 1);
    }
}
