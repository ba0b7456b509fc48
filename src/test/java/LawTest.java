/** Promises 9 and 10: law and fault. */
public final class LawTest {
    private static final Check CHECK = new Check("LawTest");

    private LawTest() {
    }

    public static void main(String[] args) {
        goodTexts();
        noTokens();
        whatCannotCome();
        numbers();
        toldTwice();
        firstFaultAlongTheText();
        lawStaysBehindAFault();
        whatIsNotToldFallsBack();
        CHECK.finish();
    }

    private static void good(String text, int rules) {
        LandRun x = new LandRun();
        CHECK.due("law of '" + text + "'", Check.law(x, text), rules);
        CHECK.due("fault of '" + text + "'", x.fault(), 0);
        CHECK.due("rules of '" + text + "'", x.count(6), rules);
    }

    private static void bad(String text, int place, int kind) {
        LandRun x = new LandRun();
        CHECK.due("law of '" + text + "'", Check.law(x, text), -1 - place);
        CHECK.due("fault of '" + text + "'", x.fault(), kind);
        CHECK.due("rules of '" + text + "'", x.count(6), 0);
    }

    private static void goodTexts() {
        good("", 0);
        good("   \n \n", 0);
        good("age 0;", 1);
        good("age 120;", 1);
        good("age 007;", 1);
        good("age\n5\n;\n", 1);
        good("hidden barred;", 1);
        good("hidden heard;", 1);
        good("proof 9;", 1);
        good("proof 009;", 1);
        good("days 999;", 1);
        good("days 0;", 1);
        good("doubt filed;", 1);
        good("doubt young;", 1);
        good("doubt nobody;", 1);
        good("doubt nobody;days 1;proof 1;hidden heard;age 1;", 5);
        StringBuilder wide = new StringBuilder("age 1;");
        while (wide.length() < 193) {
            wide.append(' ');
        }
        good(wide + "days 1;", 2);
    }

    private static void noTokens() {
        bad("Age 1;", 0, 1);
        bad(" #", 1, 1);
        bad("age\t1;", 3, 1);
        bad("age\r\n1;", 3, 1);
        bad("age1;", 0, 1);
        bad("age 1x;", 4, 1);
        bad("age x1;", 4, 1);
        bad("age 1000;", 4, 1);
        bad("age 0001;", 4, 1);
        bad("age 1,", 5, 1);
        bad("age 1;" + (char) 0, 6, 1);
        bad("age 1;" + (char) 255, 6, 1);
        bad("age 1;" + (char) 128, 6, 1);
        bad("age -1;", 4, 1);
        bad("`", 0, 1);
        bad("{", 0, 1);
        bad("/", 0, 1);
        bad(":", 0, 1);
        // a token of wrong make is no token even where no such one could come
        bad("1234", 0, 1);
        bad("age age9", 4, 1);
    }

    private static void whatCannotCome() {
        bad("age", 3, 2);
        bad("age  ", 5, 2);
        bad("age 1", 5, 2);
        bad("age 1 \n", 7, 2);
        bad("hidden", 6, 2);
        bad("hidden barred", 13, 2);
        bad("law 1;", 0, 2);
        bad("ag 1;", 0, 2);
        bad("ages 1;", 0, 2);
        bad(";", 0, 2);
        bad("1;", 0, 2);
        bad("999", 0, 2);
        bad("barred;", 0, 2);
        bad("age;", 3, 2);
        bad("age heard;", 4, 2);
        bad("proof young;", 6, 2);
        bad("days filed;", 5, 2);
        bad("hidden 1;", 7, 2);
        bad("hidden filed;", 7, 2);
        bad("hidden bar;", 7, 2);
        bad("hidden ;", 7, 2);
        bad("doubt barred;", 6, 2);
        bad("doubt heard;", 6, 2);
        bad("doubt 3;", 6, 2);
        bad("doubt no body;", 6, 2);
        bad("age 1;;", 6, 2);
        bad("age 1 2;", 6, 2);
        bad("age 1 days 2;", 6, 2);
        bad("hidden heard heard;", 13, 2);
        bad("age 1;x", 6, 2);
    }

    private static void numbers() {
        bad("age 121;", 4, 3);
        bad("age 999;", 4, 3);
        bad("proof 10;", 6, 3);
        bad("proof  999;", 7, 3);
        bad("days 1;age 121", 11, 3);
    }

    private static void toldTwice() {
        bad("age 1;age 2;", 6, 4);
        bad("age 1;days 2;age 1;", 13, 4);
        bad("hidden heard;hidden heard;", 13, 4);
        bad("proof 1; proof 1;", 9, 4);
        bad("days 1;\ndays 1;", 8, 4);
        bad("doubt young;doubt", 12, 4);
    }

    private static void firstFaultAlongTheText() {
        bad("age 1;age 999;#", 6, 4);
        bad("age 121 age", 4, 3);
        bad("age 121#", 4, 3);
        bad("age #;age 1;", 4, 1);
        bad("age age 1;", 4, 2);
        bad("age 1 999;", 6, 2);
        bad("hidden 999;", 7, 2);
        bad("age 1 age 2;", 6, 2);
    }

    private static void lawStaysBehindAFault() {
        LandRun x = new LandRun();
        Check.lineman(x, 0, 1, 20);
        x.file(0, 0);
        CHECK.due("law", Check.law(x, "age 30;days 9;"), 2);
        CHECK.due("not lawful", x.span(0, 0, 3), 0);
        CHECK.due("law with a fault", Check.law(x, "age 10;proof 10;"), -14);
        CHECK.due("its kind", x.fault(), 3);
        CHECK.due("its kind again", x.fault(), 3);
        CHECK.due("rules stay", x.count(6), 2);
        CHECK.due("still not lawful", x.span(0, 0, 3), 0);
        CHECK.due("law", Check.law(x, "age 10;"), 1);
        CHECK.due("no fault", x.fault(), 0);
        CHECK.due("rules", x.count(6), 1);
        CHECK.due("lawful", x.span(0, 0, 3), 1);
        CHECK.due("the tape is empty", x.law(), 0);
        CHECK.due("rules", x.count(6), 0);
    }

    private static void whatIsNotToldFallsBack() {
        LandRun x = new LandRun();
        Check.hidden(x, 0, 1, 0);
        x.file(0, 0);
        CHECK.due("lawful without a law", x.span(0, 0, 3), 1);
        String[] against = {"age 1;", "hidden barred;", "proof 1;"};
        for (String text : against) {
            Check.law(x, text);
            CHECK.due("lawful by " + text, x.span(0, 0, 3), 0);
            Check.law(x, "days 5;");
            CHECK.due("lawful behind " + text, x.span(0, 0, 3), 1);
        }
    }
}
