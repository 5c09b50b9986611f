/** Promises 16 to 18: when hands stand alike again, when a stopped one stopped, when one may have been set by another. */
public final class MeetingTest {
    private static final int NONE = WrongClocks.NONE, UNKNOWN = WrongClocks.UNKNOWN;
    private static final int OUTSIDE = WrongClocks.OUTSIDE, NOT = WrongClocks.NOT;

    private MeetingTest() {
    }

    public static void main(String[] args) {
        againOfTwo();
        againOfMore();
        againOnADay();
        againRefused();
        stopped();
        stoppedRefused();
        setBy();
        setByBack();
        setByRefused();
        Checks.end();
    }

    private static void againOfTwo() {
        WrongClocks x = Checks.told("going 0 0 0 120 120;going 1 0 0 121 121;going 2 0 60 100 100;going 3 0 0 140 140");
        Checks.tell(x, "going 4 7 7 120 120;going 5 7 8 120 120;going 6 0 0 120 120;going 7 1 0 121 121");
        // one minute in a day: alike each 720 days
        againDue(x, 3, 0, 0);
        againDue(x, 3, 1, 1036800);
        againDue(x, 3, 1036800, 1036800);
        againDue(x, 3, 1036801, 2073600);
        againDue(x, 3, 9999999, 10368000);
        // 40 minutes in a day: an hour in a day and a half, twelve hours in 18 days
        againDue(x, 12, 0, 2160);
        againDue(x, 12, 2160, 2160);
        againDue(x, 12, 2161, 28080);
        // by one rate: always or never
        againDue(x, 17, 1234567, 1234567);
        againDue(x, 81, 5, 5);
        againDue(x, 33, 0, NONE);
        // SET 1 MINUTE later at 0: t = 1441 (t - 1), or one minute more a day makes it good behind 1441
        againDue(x, 129, 0, 1441);
        againDue(x, 130, 0, NONE);
    }

    private static void againOfMore() {
        WrongClocks x = Checks.told("going 0 0 0 120 120;going 1 0 0 240 240;going 2 0 0 0 0;going 3 0 360 200 200");
        againDue(x, 3, 1, 8640);
        againDue(x, 7, 1, 8640);
        againDue(x, 7, 8641, 17280);
        // 80 a day and half of the twelve hours: 4.5 days; then each 9 days; 6 days for 120 a day
        againDue(x, 9, 0, 6480);
        againDue(x, 11, 0, NONE);
        Checks.tell(x, "going 3 0 360 160 160");
        againDue(x, 9, 0, 12960);
        againDue(x, 9, 12961, 38880);
        againDue(x, 11, 0, NONE);
        Checks.tell(x, "going 3 0 0 160 160");
        againDue(x, 15, 1, 25920);
    }

    /** Clocks told so that all of them stand at 5 on one day; some pairs of them meet ahead of it. */
    private static void againOnADay() {
        WrongClocks x = Checks.told("going 0 0 5 120 120;going 1 0 25 127 127;going 2 1440 158 133 133;going 3 2880 363 109 109");
        againDue(x, 3, 0, 144000);
        againDue(x, 5, 144001, 1180800);
        againDue(x, 6, 144001, 316800);
        againDue(x, 10, 0, 28800);
        againDue(x, 10, 144001, 201600);
        againDue(x, 7, 0, 144000);
        againDue(x, 14, 144001, 316800);
        againDue(x, 15, 0, 144000);
        againDue(x, 15, 300000, 1180800);
        Checks.tell(x, "going 1 0 133 136 136;going 2 0 335 150 150");
        againDue(x, 3, 0, 53280);
        againDue(x, 5, 0, 18720);
        againDue(x, 6, 60000, 571680);
        againDue(x, 7, 0, 53280);
        againDue(x, 7, 53281, 571680);
        Checks.tell(x, "going 1 0 557 144 144;going 2 0 275 210 210");
        againDue(x, 3, 0, 10080);
        againDue(x, 5, 60000, 64800);
        againDue(x, 6, 60000, 226080);
        againDue(x, 7, 0, 53280);
        againDue(x, 7, 226081, 398880);
        Checks.tell(x, "going 2 0 276 210 210");
        againDue(x, 6, 0, 21840);
        againDue(x, 7, 0, NONE);
    }

    private static void againDue(WrongClocks x, int set, int minute, int want) {
        Checks.due(16, "again(" + set + ", " + minute + ")", x.again(set, minute), want);
    }

    private static void againRefused() {
        WrongClocks x = Checks.told("going 0 0 0 0 0;going 1 0 0 0 0;going 2 0 0 0 1;back 3 0 0 0 0;stopped 4 0");
        againDue(x, 3, 0, 0);
        for (int bad : new int[] {0, 1, 2, 4, 7, 11, 19, 35, 128, 256, 259, 511, -1, -253, Integer.MIN_VALUE, Integer.MAX_VALUE}) {
            againDue(x, bad, 0, OUTSIDE);
        }
        for (int bad : new int[] {-1, 10000000, Integer.MAX_VALUE, Integer.MIN_VALUE}) {
            againDue(x, 3, bad, OUTSIDE);
        }
        Checks.tell(x, "gone 1;going 5 0 0 9 9");
        againDue(x, 3, 0, OUTSIDE);
        againDue(x, 33, 0, 0);
        Checks.tell(x, "going 0 0 0 0 1");
        againDue(x, 33, 0, OUTSIDE);
        Checks.tell(x, "going 7 0 0 9 9;back 6 0 0 9 9;going 0 0 0 9 9");
        againDue(x, 128 + 32, 0, 0);
        againDue(x, 64 + 32, 0, OUTSIDE);
    }

    private static void stopped() {
        WrongClocks x = Checks.told("stopped 0 5;going 1 0 0 120 120;back 2 0 0 120 120;going 3 0 0 0 240;going 4 4319 6 120 120");
        stoppedDue(x, 0, 1, 6, 5, 3605);
        stoppedDue(x, 0, 2, 6, 715, 4315);
        Checks.tell(x, "stopped 5 0;stopped 6 719");
        stoppedDue(x, 5, 1, 6, 0, 3600);
        stoppedDue(x, 6, 1, 6, 719, 4319);
        stoppedDue(x, 0, 4, 6, 718, 4318);
        // by the greatest rate it comes to 5 behind 60 / 13 MINUTES; at the last MINUTE it can show anything
        Checks.due(17, "the first", x.stopped(0, 3, 1), 5);
        Checks.due(17, "the last", x.stopped(0, 3, 2), 4319);
        Checks.tell(x, "now 0 9;now 1 9;going 5 1000 6 0 0");
        stoppedDue(x, 0, 1, 6, 5, 3605);
        // ahead of SET it shows 5 at 999 (5.08); each 785.45 MINUTES earlier and later again
        stoppedDue(x, 0, 5, 6, 214, 4141);
    }

    private static void stoppedDue(WrongClocks x, int k, int make, int... wants) {
        for (int what = 0; what < 3; what++) {
            Checks.due(17, "stopped(" + k + ", " + make + ", " + what + ")", x.stopped(k, make, what), wants[what]);
        }
    }

    private static void stoppedRefused() {
        WrongClocks x = Checks.told("stopped 0 5;going 1 0 0 120 120;stopped 2 6");
        Checks.due(17, "stopped(3, 1, 3)", x.stopped(3, 1, 3), UNKNOWN);
        Checks.due(17, "stopped(0, 3, 3)", x.stopped(0, 3, 3), UNKNOWN);
        Checks.due(17, "stopped(-1, 1, 0)", x.stopped(-1, 1, 0), UNKNOWN);
        Checks.due(17, "stopped(0, 8, 0)", x.stopped(0, 8, 0), UNKNOWN);
        for (int bad : new int[] {-1, 3, Integer.MAX_VALUE, Integer.MIN_VALUE}) {
            Checks.due(17, "stopped(0, 1, " + bad + ")", x.stopped(0, 1, bad), OUTSIDE);
            Checks.due(17, "stopped(1, 0, " + bad + ")", x.stopped(1, 0, bad), OUTSIDE);
        }
        Checks.due(17, "stopped(1, 0, 0)", x.stopped(1, 0, 0), NOT);
        Checks.due(17, "stopped(1, 1, 0)", x.stopped(1, 1, 0), NOT);
        Checks.due(17, "stopped(0, 2, 0)", x.stopped(0, 2, 0), NOT);
        Checks.due(17, "stopped(0, 0, 0)", x.stopped(0, 0, 0), NOT);
    }

    private static void setBy() {
        WrongClocks x = Checks.told("going 0 5 5 118 122;going 1 0 0 120 120;going 2 0 30 125 125;now 0 200");
        setByDue(x, 0, 1, 200, 4, 0);
        setByDue(x, 0, 1, 201, 4, 0);
        setByDue(x, 0, 1, 202, 0, NONE);
        setByDue(x, 0, 1, 199, 0, NONE);
        // the stroke at the MINUTE itself counts
        Checks.tell(x, "now 0 180");
        setByDue(x, 0, 1, 180, 4, 0);
        setByDue(x, 0, 1, 179, 0, NONE);
        // never just at a whole hour but when it was SET to one
        setByDue(x, 0, 2, 180, 0, NONE);
        Checks.tell(x, "going 2 30 60 125 125");
        setByDue(x, 0, 2, 150, 1, 30);
        setByDue(x, 0, 2, 29, 0, NONE);
        // its own SET and A do not matter; to be 4 to 5 minutes behind it takes four times 720 MINUTES and more
        Checks.tell(x, "now 0 715");
        setByDue(x, 0, 1, 2880, 0, NONE);
        setByDue(x, 0, 1, 3600, 12, 0);
        setByDue(x, 0, 1, 4319, 36, 0);
    }

    private static void setByBack() {
        WrongClocks x = Checks.told("going 0 0 0 120 120;back 1 0 0 120 120;now 0 80");
        setByDue(x, 0, 1, 200, 1, 60);
        setByDue(x, 0, 1, 59, 0, NONE);
        Checks.tell(x, "now 0 200");
        setByDue(x, 0, 1, 200, 1, 0);
        // each six hours the same by both
        setByDue(x, 0, 1, 920, 3, 0);
    }

    private static void setByDue(WrongClocks x, int k, int other, int minute, int many, int first) {
        String call = "setBy(" + k + ", " + other + ", " + minute;
        Checks.due(18, call + ", 0)", x.setBy(k, other, minute, 0), many);
        Checks.due(18, call + ", 1)", x.setBy(k, other, minute, 1), first);
    }

    private static void setByRefused() {
        WrongClocks x = Checks.told("going 0 0 0 0 240;going 1 0 0 120 120;stopped 2 0;back 3 0 0 120 120;going 4 0 0 0 1");
        Checks.due(18, "one that is not READ", x.setBy(0, 1, 0, 0), NOT);
        Checks.tell(x, "now 0 0;now 2 0;now 3 0");
        Checks.due(18, "setBy(0, 1, 0, 0)", x.setBy(0, 1, 0, 0), 1);
        Checks.due(18, "setBy(0, 3, 0, 0)", x.setBy(0, 3, 0, 0), 1);
        Checks.due(18, "by a STOPPED one", x.setBy(0, 2, 0, 0), NOT);
        Checks.due(18, "by one with L unlike H", x.setBy(0, 4, 0, 0), NOT);
        Checks.due(18, "a BACK one", x.setBy(3, 1, 0, 0), NOT);
        Checks.due(18, "a STOPPED one", x.setBy(2, 1, 0, 0), NOT);
        Checks.due(18, "one that is not READ", x.setBy(1, 3, 0, 0), NOT);
        Checks.due(18, "setBy(5, 1, 0, 2)", x.setBy(5, 1, 0, 2), UNKNOWN);
        Checks.due(18, "setBy(0, 5, 0, 2)", x.setBy(0, 5, 0, 2), UNKNOWN);
        Checks.due(18, "setBy(5, 5, 0, 0)", x.setBy(5, 5, 0, 0), UNKNOWN);
        Checks.due(18, "setBy(8, 1, 0, 0)", x.setBy(8, 1, 0, 0), UNKNOWN);
        Checks.due(18, "setBy(0, -1, 0, 0)", x.setBy(0, -1, 0, 0), UNKNOWN);
        Checks.due(18, "by itself", x.setBy(0, 0, 0, 0), OUTSIDE);
        Checks.due(18, "a STOPPED one by itself", x.setBy(2, 2, 0, 0), OUTSIDE);
        for (int bad : new int[] {-1, 4320, Integer.MAX_VALUE, Integer.MIN_VALUE}) {
            Checks.due(18, "setBy(0, 1, " + bad + ", 0)", x.setBy(0, 1, bad, 0), OUTSIDE);
            Checks.due(18, "setBy(0, 1, 0, " + bad + ")", x.setBy(0, 1, 0, bad), OUTSIDE);
            Checks.due(18, "setBy(0, 2, " + bad + ", 0)", x.setBy(0, 2, bad, 0), OUTSIDE);
        }
        Checks.due(18, "setBy(0, 1, 0, 2)", x.setBy(0, 1, 0, 2), OUTSIDE);
    }
}
