/** Promises 9 and 10 at their edges, with LAW and its FAULTS: law and fault. */
public final class LawEdgeTest {
    private static final Check CHECK = new Check("LawEdgeTest");
    private static final String[] RULES = {"age 1;", "hidden barred;", "proof 1;", "days 1;", "doubt filed;"};
    private static final String[] WORDS = {"age", "hidden", "proof", "days", "doubt"};

    private LawEdgeTest() {
    }

    public static void main(String[] args) {
        eachByteAlone();
        eachByteBetween();
        smallLetters();
        oneToThreeDigits();
        wordsGoOn();
        blanksOrNot();
        emptyTexts();
        fullTexts();
        ageFrom0To120();
        proofFrom0To9();
        daysFrom0To999();
        choices();
        allWordsAreWhole();
        endOfEachText();
        eachRuleOnceAtMost();
        eachPairOfRules();
        firstFaultAlongTheText();
        leastFaultOfOneToken();
        lawStays();
        whatIsNotTold();
        faultOfTheLatest();
        tapeIsEmptyThen();
        CHECK.finish();
    }

    private static void good(String text, int rules) {
        LandRun x = new LandRun();
        CHECK.due("law of '" + text + "'", Check.law(x, text), rules);
        CHECK.due("fault of '" + text + "'", x.fault(), 0);
        CHECK.due("RULES of '" + text + "'", x.count(6), rules);
    }

    private static void bad(String text, int place, int kind) {
        LandRun x = new LandRun();
        Check.law(x, "doubt young;");
        CHECK.due("law of '" + text + "'", Check.law(x, text), -1 - place);
        CHECK.due("fault of '" + text + "'", x.fault(), kind);
        CHECK.due("RULES stay behind '" + text + "'", x.count(6), 1);
    }

    private static String blanks(int many) {
        return " ".repeat(many);
    }

    private static boolean isSmall(int sign) {
        return sign >= 'a' && sign <= 'z';
    }

    private static boolean isDigit(int sign) {
        return sign >= '0' && sign <= '9';
    }

    /** A blank, a TOKEN that can't come first, or no TOKEN. */
    private static void eachByteAlone() {
        for (int sign = 0; sign < 256; sign++) {
            String text = String.valueOf((char) sign);
            if (sign == 32 || sign == 10) {
                good(text, 0);
            } else if (isSmall(sign) || isDigit(sign) || sign == ';') {
                bad(text, 0, 2);
            } else {
                bad(text, 0, 1);
            }
        }
    }

    /** Capital letters are left out: whether a WORD goes on over them the document leaves open. */
    private static void eachByteBetween() {
        for (int sign = 0; sign < 256; sign++) {
            String text = "age" + (char) sign + "1;";
            if (sign == 32 || sign == 10) {
                good(text, 1);
            } else if (isSmall(sign) || isDigit(sign)) {
                bad(text, 0, 1);
            } else if (sign == ';') {
                bad(text, 3, 2);
            } else if (sign < 'A' || sign > 'Z') {
                bad(text, 3, 1);
            }
        }
    }

    /** "WORDS (small letters)": from a to z. */
    private static void smallLetters() {
        bad("az", 0, 2);
        bad("za", 0, 2);
        bad("age {", 4, 1);
        bad("age `", 4, 1);
        bad("age @", 4, 1);
        bad("AGE 1;", 0, 1);
        bad("hidden Barred;", 7, 1);
        bad("doubt Young;", 6, 1);
    }

    /** "NUMBERS (1 to 3 digits)" */
    private static void oneToThreeDigits() {
        good("days 9;", 1);
        good("days 99;", 1);
        good("days 999;", 1);
        bad("days 1000;", 5, 1);
        bad("days 0000;", 5, 1);
        bad("days 99999999999999999999;", 5, 1);
        bad("days ;", 5, 2);
        good("age 000;", 1);
        good("age 001;", 1);
        bad("age 0001;", 4, 1);
        good("proof 009;", 1);
        bad("proof 0009;", 6, 1);
        good("days 0;", 1);
        bad("days /;", 5, 1);
        bad("days :;", 5, 1);
    }

    /** "a WORD, NUMBER goes on as long as letters and digits do; where it is not as told then it is no TOKEN" */
    private static void wordsGoOn() {
        bad("age1;", 0, 1);
        bad("1age;", 0, 1);
        bad("a1", 0, 1);
        bad("1a", 0, 1);
        bad("age 12a;", 4, 1);
        bad("age a12;", 4, 1);
        bad("age 1a1;", 4, 1);
        bad("age 1;hidden1 heard;", 6, 1);
        bad("hidden heard1;", 7, 1);
        bad("doubt 1filed;", 6, 1);
        bad("agehidden;", 0, 2);
        bad("age 1age 2;", 4, 1);
    }

    /** "with blanks (32, 10) between or not" */
    private static void blanksOrNot() {
        good("age 1;", 1);
        good(" age  1 ; ", 1);
        good("\nage\n1\n;\n", 1);
        good(" \n \nage \n 1\n ;\n \n", 1);
        good("age 1;hidden heard;proof 1;days 1;doubt filed;", 5);
        good("age 1 ; hidden heard ; proof 1 ; days 1 ; doubt filed ;", 5);
        bad("a ge 1;", 0, 2);
        bad("age 1 2;", 6, 2);
        bad("hidden bar red;", 7, 2);
    }

    private static void emptyTexts() {
        good("", 0);
        good(" ", 0);
        good("\n", 0);
        good(blanks(200), 0);
    }

    /** Texts of 200 bytes, and their last byte. */
    private static void fullTexts() {
        good(blanks(194) + "age 1;", 1);
        good("age 1" + blanks(194) + ";", 1);
        good("age" + blanks(195) + "1;", 1);
        bad("age 1" + blanks(195), 200, 2);
        bad(blanks(197) + "age", 200, 2);
        bad(blanks(199) + "#", 199, 1);
        bad(blanks(199) + ";", 199, 2);
        bad(blanks(199) + "a", 199, 2);
        bad(blanks(196) + "1234", 196, 1);
        bad("a".repeat(200), 0, 2);
        bad("1".repeat(200), 0, 1);
        bad(";".repeat(200), 0, 2);
        bad("age 1;" + blanks(191) + "age", 197, 4);
        bad("age 1;" + "#".repeat(194), 6, 1);
        bad("age " + "1".repeat(196), 4, 1);
    }

    private static void ageFrom0To120() {
        good("age 0;", 1);
        good("age 120;", 1);
        bad("age 121;", 4, 3);
        bad("age 200;", 4, 3);
        bad("age 999;", 4, 3);
        good("age 119;", 1);
    }

    private static void proofFrom0To9() {
        good("proof 0;", 1);
        good("proof 9;", 1);
        bad("proof 10;", 6, 3);
        bad("proof 010;", 6, 3);
        bad("proof 999;", 6, 3);
    }

    /** A NUMBER of three digits is never beyond 999, so what is beyond it is no TOKEN. */
    private static void daysFrom0To999() {
        good("days 0;", 1);
        good("days 000;", 1);
        good("days 999;", 1);
        bad("days 1000;", 5, 1);
    }

    private static void choices() {
        String[] texts = {"hidden barred;", "hidden heard;", "doubt filed;", "doubt young;", "doubt nobody;"};
        for (String text : texts) {
            good(text, 1);
        }
        bad("hidden nobody;", 7, 2);
        bad("hidden young;", 7, 2);
        bad("hidden hidden;", 7, 2);
        bad("doubt barred;", 6, 2);
        bad("doubt heard;", 6, 2);
        bad("doubt doubt;", 6, 2);
        bad("hidden 0;", 7, 2);
        bad("doubt 0;", 6, 2);
        bad("age barred;", 4, 2);
        bad("age age;", 4, 2);
        bad("proof filed;", 6, 2);
        bad("days nobody;", 5, 2);
    }

    /** A letter less, a letter more, another letter first or last: another WORD. */
    private static void allWordsAreWhole() {
        String[] values = {"", "heard", "", "", "young"};
        for (int i = 0; i < WORDS.length; i++) {
            String word = WORDS[i];
            for (String other : others(word)) {
                bad(other + " 1;", 0, 2);
                bad("days 1;" + other, 7, 2);
            }
            if (!values[i].isEmpty()) {
                good(word + " " + values[i] + ";", 1);
                for (String other : others(values[i])) {
                    bad(word + " " + other + ";", word.length() + 1, 2);
                }
            }
        }
        for (String value : new String[] {"barred", "filed", "nobody"}) {
            String word = value.equals("barred") ? "hidden" : "doubt";
            for (String other : others(value)) {
                bad(word + " " + other + ";", word.length() + 1, 2);
            }
        }
    }

    private static String[] others(String word) {
        return new String[] {
            word.substring(1), word.substring(0, word.length() - 1), word + "z", "z" + word, word + word,
            "z" + word.substring(1), word.substring(0, word.length() - 1) + "z",
        };
    }

    /** "(the end: how many bytes there are)": blanks in front of the end count. */
    private static void endOfEachText() {
        for (String rule : RULES) {
            good(rule, 1);
            int word = rule.indexOf(' ');
            for (int blanks = 0; blanks <= 2; blanks++) {
                String none = rule.substring(0, rule.length() - 1) + blanks(blanks);
                bad(none, none.length(), 2);
                String alone = rule.substring(0, word) + blanks(blanks);
                bad(alone, alone.length(), 2);
            }
        }
        bad("age 1;days 1", 12, 2);
        bad("age 1;days", 10, 2);
    }

    /** "each once at most"; "4 a RULE told twice (at its WORD)" */
    private static void eachRuleOnceAtMost() {
        for (int i = 0; i < RULES.length; i++) {
            int length = RULES[i].length();
            bad(RULES[i] + RULES[i], length, 4);
            bad(RULES[i] + "\n " + RULES[i], length + 2, 4);
            bad(RULES[i] + WORDS[i], length, 4);
            bad(RULES[i] + WORDS[i] + " #", length, 4);
            bad(RULES[i] + WORDS[i] + ";", length, 4);
            bad(RULES[i] + WORDS[i] + "z", length, 2);
            bad(RULES[i] + WORDS[i] + "1", length, 1);
        }
        good("doubt filed;days 1;proof 1;hidden barred;age 1;", 5);
        bad("doubt filed;days 1;proof 1;hidden barred;age 1;days 1;", 47, 4);
        bad("hidden heard;hidden barred;", 13, 4);
        bad("age 0;age 0;", 6, 4);
    }

    private static void eachPairOfRules() {
        for (int i = 0; i < RULES.length; i++) {
            for (int j = 0; j < RULES.length; j++) {
                if (i != j) {
                    good(RULES[i] + RULES[j], 2);
                    bad(RULES[i] + RULES[j] + RULES[i], RULES[i].length() + RULES[j].length(), 4);
                }
            }
        }
    }

    /** "the first along the text": whatever kinds stand behind it. */
    private static void firstFaultAlongTheText() {
        bad("age 121;#", 4, 3);
        bad("age 121;age", 4, 3);
        bad("age 121", 4, 3);
        bad("age 1;age 121;", 6, 4);
        bad("age 1;age 1;#", 6, 4);
        bad("age 1 #", 6, 1);
        bad("age 1;x age 1;", 6, 2);
        bad("# age 121;", 0, 1);
        bad("x#", 0, 2);
        bad("#x", 0, 1);
        bad("age;#", 3, 2);
        bad("proof 10 #", 6, 3);
    }

    /** "of one TOKEN the least": no TOKEN ahead of one that can't come, that ahead of a NUMBER or a RULE twice. */
    private static void leastFaultOfOneToken() {
        bad("1000", 0, 1);
        bad("age 1000;", 4, 1);
        bad("hidden 1000;", 7, 1);
        bad("age 1 1000", 6, 1);
        bad("age 1 x1", 6, 1);
        bad("age 1 121;", 6, 2);
        bad("hidden 121;", 7, 2);
        bad("121;", 0, 2);
        bad("age 1 age 1;", 6, 2);
        bad("age 1;days age;", 11, 2);
        bad("proof age 1;", 6, 2);
        bad("age age 1;", 4, 2);
    }

    /** "-1 - the place of a FAULT: it stays": the LAW, with all that it told. */
    private static void lawStays() {
        LandRun x = new LandRun();
        Check.lineman(x, 0, 1, 20);
        Check.lineman(x, 0, 1, 30);
        x.file(0, 9);
        x.file(1, 9);
        CHECK.due("a LAW", Check.law(x, "doubt young;age 20;"), 2);
        CHECK.due("judged by it", x.judge(9, 0), 0);
        String[] texts = {"age 21;#", "age 21;x", "age 21;proof 10;", "age 21;age 21;", "age 21;doubt filed"};
        for (String text : texts) {
            CHECK.yes("a FAULT in '" + text + "'", Check.law(x, text) < 0);
            CHECK.due("RULES", x.count(6), 2);
            CHECK.due("judged as before", x.judge(9, 0), 0);
            CHECK.due("doubted as before", x.doubt(9, 0), 1);
            CHECK.due("LAWFUL as before", x.span(0, 0, 3), 1);
        }
        CHECK.due("the same without the FAULT", Check.law(x, "age 21;doubt filed;"), 2);
        CHECK.due("judged by that", x.judge(9, 0), 1);
    }

    /** "What is not told: age 0, hidden heard, proof 0, days 999, doubt nobody", whatever the LAW was. */
    private static void whatIsNotTold() {
        LandRun x = new LandRun();
        Check.hidden(x, 5, 1, 0);
        Check.lineman(x, 0, 1, 0);
        x.file(1, 9);
        x.wait(999);
        x.file(0, 9);
        String[] against = {"age 1;", "hidden barred;", "proof 1;", "days 998;"};
        for (String rule : against) {
            Check.law(x, rule);
            CHECK.due("LAWFUL by " + rule, x.span(1, 999, 3), 0);
            Check.law(x, "doubt young;");
            CHECK.due("LAWFUL behind " + rule, x.span(1, 999, 3), 1);
            CHECK.due("RULES behind " + rule, x.count(6), 1);
        }
        for (String rule : new String[] {"doubt filed;", "doubt young;"}) {
            Check.law(x, rule);
            CHECK.due("by " + rule, x.judge(9, 999), 0);
            Check.law(x, "age 0;");
            CHECK.due("behind " + rule, x.judge(9, 999), LandRun.NONE);
            CHECK.due("doubt behind " + rule, x.doubt(9, 999), 1);
        }
        Check.law(x, "doubt filed;");
        CHECK.due("an empty text", x.law(), 0);
        CHECK.due("behind it", x.judge(9, 999), LandRun.NONE);
    }

    /** "The kind of the FAULT of the latest law(); 0 without one and ahead of any." */
    private static void faultOfTheLatest() {
        LandRun x = new LandRun();
        CHECK.due("ahead of any", x.fault(), 0);
        String[] texts = {"#", "x", "age 121;", "age 1;age 1;"};
        for (int kind = 1; kind <= 4; kind++) {
            Check.law(x, texts[kind - 1]);
            CHECK.due("kind", x.fault(), kind);
            CHECK.due("kind, told again", x.fault(), kind);
        }
        x.wait(1);
        x.run(1);
        x.lots();
        x.sell();
        CHECK.due("behind other calls", x.fault(), 4);
        CHECK.due("law of an empty tape", x.law(), 0);
        CHECK.due("without one", x.fault(), 0);
    }

    private static void tapeIsEmptyThen() {
        LandRun x = new LandRun();
        Check.law(x, "age 1;");
        CHECK.due("bytes behind a LAW", x.count(7), 0);
        CHECK.due("the next text is empty", x.law(), 0);
        Check.law(x, "age 1;age 1;");
        CHECK.due("bytes behind a FAULT", x.count(7), 0);
        CHECK.due("the next text is empty", x.law(), 0);
    }
}
