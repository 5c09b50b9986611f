/** Promises 7 to 12: what a clock shows and can show, what fits, what time it can be, who lies, which to read next. */
public final class TimeTest {
    private static final int NONE = WrongClocks.NONE, UNKNOWN = WrongClocks.UNKNOWN, OUTSIDE = WrongClocks.OUTSIDE;

    private TimeTest() {
    }

    public static void main(String[] args) {
        showsGoing();
        showsBack();
        showsCutDownwards();
        showsRefused();
        canBetween();
        canByEveryRate();
        canRefused();
        fits();
        timesOfOne();
        timesOfMore();
        timesFollowWhatIsTold();
        liars();
        next();
        nextWithoutTimes();
        Checks.end();
    }

    private static void showsGoing() {
        WrongClocks x = Checks.told("going 0 100 600 110 125;stopped 1 77");
        showsDue(x, 0, 100, 600, 600);
        showsDue(x, 0, 1540, 590, 605);
        showsDue(x, 0, 0, 500, 499);
        showsDue(x, 1, 0, 77, 77);
        showsDue(x, 1, 4319, 77, 77);
    }

    private static void showsBack() {
        WrongClocks x = Checks.told("back 0 100 600 110 125");
        showsDue(x, 0, 100, 600, 600);
        showsDue(x, 0, 101, 599, 598);
        showsDue(x, 0, 1540, 610, 595);
        showsDue(x, 0, 0, 699, 700);
    }

    private static void showsCutDownwards() {
        WrongClocks x = Checks.told("going 0 10 0 0 240;back 1 0 0 120 120;going 2 0 719 120 120");
        showsDue(x, 0, 9, 719, 718);
        showsDue(x, 0, 11, 0, 1);
        showsDue(x, 1, 1, 719, 719);
        showsDue(x, 1, 720, 0, 0);
        showsDue(x, 1, 4319, 1, 1);
        showsDue(x, 2, 0, 719, 719);
        showsDue(x, 2, 1, 0, 0);
        showsDue(x, 2, 4319, 718, 718);
        // 719 and 4319 MINUTES ahead of SET: 719 - 4319 * 1560 / 1440 = -3959.91..
        Checks.tell(x, "going 3 4319 719 240 240");
        showsDue(x, 3, 0, 360, 360);
    }

    private static void showsDue(WrongClocks x, int k, int minute, int byLow, int byHigh) {
        Checks.due(7, "shows(" + k + ", " + minute + ", 0)", x.shows(k, minute, 0), byLow);
        Checks.due(7, "shows(" + k + ", " + minute + ", 1)", x.shows(k, minute, 1), byHigh);
    }

    private static void showsRefused() {
        WrongClocks x = Checks.told("going 0 0 0 0 0");
        for (int bad : new int[] {-1, 4320, Integer.MAX_VALUE, Integer.MIN_VALUE}) {
            Checks.due(7, "shows(0, " + bad + ", 0)", x.shows(0, bad, 0), OUTSIDE);
            Checks.due(7, "shows(0, 0, " + bad + ")", x.shows(0, 0, bad), OUTSIDE);
            Checks.due(7, "shows(1, " + bad + ", 0)", x.shows(1, bad, 0), UNKNOWN);
        }
        Checks.due(7, "shows(0, 0, 2)", x.shows(0, 0, 2), OUTSIDE);
        Checks.due(7, "shows(-1, 0, 0)", x.shows(-1, 0, 0), UNKNOWN);
        Checks.due(7, "shows(8, 0, 0)", x.shows(8, 0, 0), UNKNOWN);
    }

    private static void canBetween() {
        Checks.canOnly("going 0 100 600 110 125", 100, 600, 600);
        Checks.canOnly("going 0 100 600 110 125", 1540, 590, 605);
        Checks.canOnly("going 0 100 600 110 125", 0, 499, 500);
        Checks.canOnly("back 0 100 600 110 125", 1540, 595, 610);
        Checks.canOnly("back 0 100 600 110 125", 0, 699, 700);
        Checks.canOnly("stopped 0 77", 9, 77, 77);
        // by H the HAND stands exactly at 1, at 720: that is shown, too, nothing behind it
        Checks.canOnly("going 0 0 0 0 120", 1, 0, 1);
        Checks.canOnly("going 0 0 0 0 120", 720, 660, 720);
    }

    private static void canByEveryRate() {
        WrongClocks x = Checks.told("going 0 0 0 120 121;going 1 0 0 0 240");
        // by whole rates it shows 719 or 1; 0 by one between them
        Checks.due(8, "shows by L", x.shows(0, 4319, 0), 719);
        Checks.due(8, "shows by H", x.shows(0, 4319, 1), 1);
        Checks.due(8, "can(0, 4319, 0)", x.can(0, 4319, 0), 1);
        Checks.due(8, "can(0, 4319, 2)", x.can(0, 4319, 2), 0);
        Checks.due(8, "can(0, 4319, 718)", x.can(0, 4319, 718), 0);
        // 4312 MINUTES: 3952.67 .. 4671.33, 719 of the 720 and the next
        Checks.canOnly("going 0 0 0 0 240", 4312, 0, 719);
        // 4308 MINUTES: 3949 .. 4667 exactly, one DIAL is left out (3948, 348)
        Checks.due(8, "can(1, 4308, 348)", x.can(1, 4308, 348), 0);
        Checks.due(8, "can(1, 4308, 349)", x.can(1, 4308, 349), 1);
        Checks.due(8, "can(1, 4308, 347)", x.can(1, 4308, 347), 1);
    }

    private static void canRefused() {
        WrongClocks x = Checks.told("going 0 0 0 0 0");
        for (int bad : new int[] {-1, 4320, Integer.MAX_VALUE, Integer.MIN_VALUE}) {
            Checks.due(8, "can(0, " + bad + ", 0)", x.can(0, bad, 0), OUTSIDE);
            Checks.due(8, "can(0, 0, " + bad + ")", x.can(0, 0, bad), OUTSIDE);
            Checks.due(8, "can(7, 0, " + bad + ")", x.can(7, 0, bad), UNKNOWN);
        }
        Checks.due(8, "can(0, 0, 720)", x.can(0, 0, 720), OUTSIDE);
    }

    private static void fits() {
        WrongClocks x = Checks.told("going 0 0 0 120 120;stopped 1 5;stopped 7 6;back 3 0 0 120 120");
        Checks.due(9, "fits(100), none READ", x.fits(100), 0);
        Checks.tell(x, "now 0 100;now 1 5;now 7 5;now 3 620");
        Checks.due(9, "fits(100)", x.fits(100), 11);
        Checks.due(9, "fits(101)", x.fits(101), 2);
        Checks.due(9, "fits(0)", x.fits(0), 2);
        Checks.due(9, "fits(4319)", x.fits(4319), 2);
        Checks.tell(x, "gone 1;stopped 7 5");
        Checks.due(9, "fits(100) without gone and new ones", x.fits(100), 9);
        for (int bad : new int[] {-1, 4320, Integer.MAX_VALUE, Integer.MIN_VALUE}) {
            Checks.due(9, "fits(" + bad + ")", x.fits(bad), OUTSIDE);
        }
    }

    private static void timesOfOne() {
        WrongClocks x = Checks.told("going 0 0 0 120 120;going 1 0 0 0 0;stopped 2 5");
        timesDue(x, 4320, 0, 4319, 1);
        Checks.tell(x, "now 0 100");
        timesDue(x, 6, 100, 3700, 6);
        Checks.tell(x, "now 0 719");
        timesDue(x, 6, 719, 4319, 6);
        // 0 and 1, 786, 1571, 2357, 3142, 3928
        Checks.tell(x, "unread;now 1 0");
        timesDue(x, 7, 0, 3928, 6);
        Checks.tell(x, "unread;now 2 5");
        timesDue(x, 4320, 0, 4319, 1);
        Checks.tell(x, "unread;now 2 6");
        timesDue(x, 0, NONE, NONE, 0);
        for (int bad : new int[] {-1, 4, Integer.MAX_VALUE, Integer.MIN_VALUE}) {
            Checks.due(10, "times(" + bad + ")", x.times(bad), OUTSIDE);
        }
    }

    private static void timesOfMore() {
        WrongClocks x = Checks.told("going 0 0 0 120 120;back 1 0 0 120 120;going 2 0 0 130 130;going 3 0 0 110 130");
        Checks.tell(x, "now 0 100;now 1 620");
        timesDue(x, 6, 100, 3700, 6);
        Checks.tell(x, "now 2 110");
        // it is 10 MINUTES ahead behind one day: at 1540, where it is 10.69 ahead
        timesDue(x, 1, 1540, 1540, 1);
        // 0 .. 1, 716 .. 726, 1431 .. 1451, 2146 .. 2176, 2861 .. 2901, 3576 .. 3626, 4291 .. 4319
        Checks.tell(x, "unread;now 3 0");
        timesDue(x, 186, 0, 4319, 7);
        Checks.tell(x, "now 2 0");
        timesDue(x, 7, 0, 4291, 7);
    }

    private static void timesFollowWhatIsTold() {
        WrongClocks x = Checks.told("going 0 0 0 120 120;now 0 100");
        timesDue(x, 6, 100, 3700, 6);
        x.keep(0);
        Checks.tell(x, "going 0 0 0 120 120");
        timesDue(x, 4320, 0, 4319, 1);
        Checks.tell(x, "now 0 101");
        timesDue(x, 6, 101, 3701, 6);
        x.back(0);
        timesDue(x, 6, 100, 3700, 6);
        Checks.tell(x, "gone 0");
        timesDue(x, 4320, 0, 4319, 1);
    }

    private static void timesDue(WrongClocks x, int... wants) {
        for (int what = 0; what < 4; what++) {
            Checks.due(10, "times(" + what + ")", x.times(what), wants[what]);
        }
    }

    private static void liars() {
        WrongClocks x = Checks.told("going 0 0 0 120 120;going 1 0 0 120 120;going 2 0 0 120 120;stopped 3 7");
        liarsDue(x, 0, 0, 0);
        Checks.tell(x, "now 0 100;now 1 100");
        liarsDue(x, 0, 0, 100);
        Checks.tell(x, "now 2 90");
        liarsDue(x, 1, 4, 100);
        Checks.tell(x, "now 1 90");
        liarsDue(x, 1, 1, 90);
        Checks.tell(x, "now 1 80");
        liarsDue(x, 2, 3, 90);
        Checks.tell(x, "now 3 7");
        liarsDue(x, 2, 3, 90);
        Checks.tell(x, "now 3 8");
        liarsDue(x, 3, 11, 90);
        Checks.tell(x, "unread;now 3 8");
        liarsDue(x, 1, 8, 0);
        // of as many the least set, though a greater one has an earlier MINUTE
        Checks.tell(x, "unread;now 0 5;now 1 300");
        liarsDue(x, 1, 1, 300);
        Checks.tell(x, "unread;now 0 1;now 1 0;now 2 1");
        liarsDue(x, 1, 2, 1);
        // fewer clocks, though they are a greater number by bits
        Checks.tell(x, "unread;now 0 5;now 1 5;now 2 300");
        liarsDue(x, 1, 4, 5);
        for (int bad : new int[] {-1, 3, Integer.MAX_VALUE, Integer.MIN_VALUE}) {
            Checks.due(11, "liars(" + bad + ")", x.liars(bad), OUTSIDE);
        }
    }

    private static void liarsDue(WrongClocks x, int... wants) {
        for (int what = 0; what < 3; what++) {
            Checks.due(11, "liars(" + what + ")", x.liars(what), wants[what]);
        }
    }

    private static void next() {
        WrongClocks x = new WrongClocks();
        nextDue(x, NONE, NONE);
        Checks.tell(x, "going 6 0 0 120 121");
        nextDue(x, NONE, NONE);
        Checks.tell(x, "stopped 5 0");
        nextDue(x, 5, 4320);
        Checks.tell(x, "going 4 0 0 120 120");
        nextDue(x, 4, 6);
        Checks.tell(x, "going 0 0 0 120 120;now 0 100");
        nextDue(x, 4, 6);
        Checks.tell(x, "back 7 0 0 240 240");
        nextDue(x, 7, 1);
        Checks.tell(x, "going 3 0 0 240 240");
        nextDue(x, 3, 1);
        Checks.tell(x, "now 3 0");
        nextDue(x, 4, 0);
        Checks.tell(x, "going 1 0 0 0 1;gone 3");
        nextDue(x, 7, 1);
        Checks.tell(x, "unread;going 0 0 0 120 120;now 4 100;back 7 0 0 0 1");
        nextDue(x, 0, 6);
        Checks.tell(x, "unread;now 0 100");
        nextDue(x, 4, 6);
        Checks.tell(x, "back 7 0 0 240 240");
        Checks.tell(x, "now 7 0;now 5 0;now 4 0;now 1 0;now 6 0");
        nextDue(x, NONE, NONE);
        for (int bad : new int[] {-1, 2, Integer.MAX_VALUE, Integer.MIN_VALUE}) {
            Checks.due(12, "next(" + bad + ")", x.next(bad), OUTSIDE);
        }
    }

    private static void nextWithoutTimes() {
        WrongClocks x = Checks.told("stopped 0 5;now 0 6;going 1 0 0 0 240;going 2 0 0 7 7;stopped 3 3");
        nextDue(x, 2, 0);
    }

    private static void nextDue(WrongClocks x, int clock, int left) {
        Checks.due(12, "next(0)", x.next(0), clock);
        Checks.due(12, "next(1)", x.next(1), left);
    }
}
