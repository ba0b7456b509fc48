import java.util.NoSuchElementException;

/** What the tests share: a count of wrong answers, and ways to fill a tape. */
final class Check {
    private final String test;
    private int wrong = 0;

    Check(String test) {
        this.test = test;
    }

    void due(String what, long got, long want) {
        if (got != want) {
            wrong++;
            System.out.println(test + ": " + what + " answered " + got + ", due is " + want);
        }
    }

    void yes(String what, boolean got) {
        due(what, got ? 1 : 0, 1);
    }

    void no(String what, boolean got) {
        due(what, got ? 1 : 0, 0);
    }

    void runnerThrows(LandRun x, int p, int what) {
        boolean thrown = false;
        try {
            x.runner(p, what);
        } catch (NoSuchElementException e) {
            thrown = true;
        }
        yes("runner(" + p + ", " + what + ") throws", thrown);
    }

    void finish() {
        System.out.println(test + ": " + (wrong == 0 ? "all answers are as due" : wrong + " answers are not as due"));
        if (wrong != 0) {
            System.exit(1);
        }
    }

    /** Puts bytes behind an empty tape. */
    static void tape(LandRun x, int... bytes) {
        int[] numbers = new int[5];
        for (int at = 0; at < bytes.length; at += 20) {
            for (int i = 0; i < 5; i++) {
                numbers[i] = 0;
                for (int j = 0; j < 4; j++) {
                    int place = at + 4 * i + j;
                    numbers[i] = numbers[i] << 8 | (place < bytes.length ? bytes[place] & 255 : 0);
                }
            }
            x.feed(numbers[0], numbers[1], numbers[2], numbers[3], numbers[4]);
        }
        x.end(bytes.length);
    }

    static int[] bytesOf(String text) {
        int[] bytes = new int[text.length()];
        for (int i = 0; i < bytes.length; i++) {
            bytes[i] = text.charAt(i);
        }
        return bytes;
    }

    static int law(LandRun x, String text) {
        tape(x, bytesOf(text));
        return x.law();
    }

    static int lineman(LandRun x, int row, int pace, int age, int... known) {
        tape(x, known);
        return x.person(row, false, pace, age);
    }

    static int hidden(LandRun x, int quarter, int pace, int age, int... known) {
        tape(x, known);
        return x.person(quarter, true, pace, age);
    }

    static int lots(LandRun x, int... order) {
        tape(x, order);
        return x.lots();
    }

    static boolean bid(LandRun x, int p, int... pence) {
        tape(x, pence);
        return x.bid(p);
    }
}
