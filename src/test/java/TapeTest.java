/** Promises 1, 2, 3 and 22: a new object, feed, end and count. */
public final class TapeTest {
    private static final Check CHECK = new Check("TapeTest");

    private TapeTest() {
    }

    public static void main(String[] args) {
        newObject();
        feedAndEnd();
        highestByteFirst();
        tapeIsEmptyBehindItsReaders();
        counts();
        CHECK.finish();
    }

    private static void newObject() {
        LandRun x = new LandRun();
        for (int what = 0; what <= 7; what++) {
            CHECK.due("count of a new object " + what, x.count(what), 0);
        }
        CHECK.due("count(8)", x.count(8), LandRun.NONE);
        CHECK.due("count(-1)", x.count(-1), LandRun.NONE);
        CHECK.due("fault()", x.fault(), 0);
        CHECK.due("sell()", x.sell(), 0);
        CHECK.due("lots()", x.lots(), 0);
        for (int q = -1; q <= 64; q++) {
            CHECK.due("staked of a new object", x.staked(q), LandRun.NONE);
            CHECK.due("judge of a new object", x.judge(q, 0), LandRun.NONE);
            CHECK.due("doubt of a new object", x.doubt(q, 0), LandRun.NONE);
        }
        CHECK.due("span of a new object", x.span(0, 0, 0), LandRun.NONE);
        CHECK.due("drawn of a new object", x.drawn(0), LandRun.NONE);
        CHECK.due("bought of a new object", x.bought(0), LandRun.NONE);
        CHECK.runnerThrows(x, 0, 0);
        CHECK.yes("land of a new object", x.land(0, 1, 1));
        CHECK.due("a law without a text", x.law(), 0);
    }

    private static void feedAndEnd() {
        LandRun x = new LandRun();
        for (int i = 1; i <= 10; i++) {
            CHECK.due("feed " + i, x.feed(i, i, i, i, i), 20 * i);
        }
        CHECK.due("feed beyond 200", x.feed(1, 1, 1, 1, 1), LandRun.NONE);
        CHECK.due("bytes", x.count(7), 200);
        CHECK.no("end(201)", x.end(201));
        CHECK.no("end(-1)", x.end(-1));
        CHECK.yes("end(200)", x.end(200));
        CHECK.yes("end(181)", x.end(181));
        CHECK.due("feed to 201", x.feed(0, 0, 0, 0, 0), LandRun.NONE);
        CHECK.due("bytes", x.count(7), 181);
        CHECK.yes("end(180)", x.end(180));
        CHECK.due("feed to 200", x.feed(0, 0, 0, 0, 0), 200);
        CHECK.yes("end(0)", x.end(0));
        CHECK.due("bytes", x.count(7), 0);
        CHECK.no("end(1) of an empty tape", x.end(1));
        CHECK.no("end(MAX)", x.end(Integer.MAX_VALUE));
        CHECK.no("end(MIN)", x.end(Integer.MIN_VALUE));
    }

    private static void highestByteFirst() {
        LandRun x = new LandRun();
        // "age 120;days 007;   ": the digits tell the order within a number and of the numbers
        x.feed(0x61676520, 0x3132303B, 0x64617973, 0x20303037, 0x3B202020);
        CHECK.due("law()", x.law(), 2);
        // of a negative number too: the byte 255 is no token, behind one blank
        x.feed(0x20FF2020, 0, 0, 0, 0);
        CHECK.due("law() of a high byte", x.law(), -2);
        x.feed(0xFF202020, 0, 0, 0, 0);
        CHECK.due("law() of a highest byte", x.law(), -1);
        // bytes behind the end are gone, and do not come back with the next feed
        x.feed(0x61676520, 0x313B4141, 0x41414141, 0x41414141, 0x41414141);
        x.end(6);
        x.feed(0x64617973, 0x20323B20, 0x20202020, 0x20202020, 0x20202020);
        CHECK.due("law() of two feeds", x.law(), 2);
    }

    private static void tapeIsEmptyBehindItsReaders() {
        LandRun x = new LandRun();
        CHECK.due("person", Check.lineman(x, 0, 1, 1, 1, 2), 0);
        CHECK.due("bytes behind person", x.count(7), 0);
        CHECK.due("wrong person", Check.lineman(x, 8, 1, 1, 1, 2), LandRun.NONE);
        CHECK.due("bytes behind a wrong person", x.count(7), 0);
        Check.law(x, "age 1;");
        CHECK.due("bytes behind law", x.count(7), 0);
        Check.law(x, "age 1");
        CHECK.due("bytes behind a wrong law", x.count(7), 0);
        Check.lots(x, 0);
        CHECK.due("bytes behind lots", x.count(7), 0);
        Check.lots(x, 1);
        CHECK.due("bytes behind wrong lots", x.count(7), 0);
        Check.bid(x, 0, 1, 2);
        CHECK.due("bytes behind bid", x.count(7), 0);
        Check.bid(x, 0, 1);
        CHECK.due("bytes behind a wrong bid", x.count(7), 0);
        Check.bid(x, 7, 1, 2);
        CHECK.due("bytes behind nobody's bid", x.count(7), 0);
        x.feed(0, 0, 0, 0, 0);
        x.sell();
        x.run(1);
        x.file(0, 1);
        x.witness(0, 1, 2);
        x.judge(1, 0);
        CHECK.due("bytes behind calls that read no tape", x.count(7), 20);
        x.person(0, false, 1, 1);
        CHECK.due("bytes behind a person who comes too late", x.count(7), 0);
    }

    private static void counts() {
        LandRun x = new LandRun();
        x.land(0, 5, 0);
        Check.hidden(x, 0, 1, 1, 0);
        Check.lineman(x, 0, 1, 1, 1);
        Check.lineman(x, 0, 1, 1);
        x.run(7);
        x.wait(11);
        x.file(0, 0);
        x.file(1, 0);
        x.file(2, 0);
        x.file(2, 1);
        x.witness(0, 0, 0);
        x.witness(1, 0, 0);
        x.witness(1, 0, 0);
        x.witness(1, 0, 0);
        x.witness(2, 0, 0);
        Check.law(x, "age 1;proof 2;days 3;doubt young;hidden heard;");
        x.feed(0, 0, 0, 0, 0);
        x.end(8);
        int[] due = {7, 3, 2, 11, 4, 5, 5, 8};
        for (int what = 0; what < due.length; what++) {
            CHECK.due("count(" + what + ")", x.count(what), due[what]);
        }
    }
}
