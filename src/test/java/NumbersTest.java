import java.util.function.IntFunction;

/**
 * Each number that a call takes or a line tells: one too small and one too large is refused, the least and the
 * greatest are taken as what they are.
 */
public final class NumbersTest {
    private static final int NONE = WrongClocks.NONE, UNKNOWN = WrongClocks.UNKNOWN, OUTSIDE = WrongClocks.OUTSIDE;
    private static final int NOT = WrongClocks.NOT;

    // 0 and 7 show the MINUTE itself, 1 goes back from 0, 2 stands at 719, 3 loses or gains two hours a day.
    private static final String HOUSE =
            "going 0 0 0 120 120;back 1 0 0 120 120;stopped 2 719;going 3 0 0 0 240;going 7 4319 719 120 120";

    private NumbersTest() {
    }

    /** A call of which one number is left open. */
    private interface Call {
        long of(int value);
    }

    public static void main(String[] args) {
        write();
        clock();
        shows();
        can();
        timesAndWhat();
        note();
        rates();
        again();
        stopped();
        setBy();
        egg();
        order();
        keepAndBack();
        count();
        numbersOfRunning("going");
        numbersOfRunning("back");
        numbersOfOthers();
        highNotBelowLow();
        digits();
        leastAndGreatestAreTold();
        Checks.end();
    }

    /** Refused below the least and above the greatest, next to them and far off. */
    private static void refused(int promise, String call, Call open, int least, int greatest, long want) {
        for (int bad : new int[] {least - 1, greatest + 1, Integer.MIN_VALUE, Integer.MAX_VALUE}) {
            Checks.due(promise, call + " of " + bad, open.of(bad), want);
        }
    }

    private static void bounds(int promise, String call, Call open, int least, long byLeast, int greatest, long byGreatest) {
        Checks.due(promise, call + " of " + least, open.of(least), byLeast);
        Checks.due(promise, call + " of " + greatest, open.of(greatest), byGreatest);
        refused(promise, call, open, least, greatest, OUTSIDE);
    }

    private static void clockBounds(int promise, String call, Call open, long byLeast, long byGreatest) {
        Checks.due(promise, call + " of 0", open.of(0), byLeast);
        Checks.due(promise, call + " of 7", open.of(7), byGreatest);
        refused(promise, call, open, 0, 7, UNKNOWN);
    }

    private static void write() {
        bounds(2, "write n", n -> new WrongClocks().write(0x2020202020202020L, n), 1, 1, 8, 8);
        long[] rows = {0, -1, Long.MIN_VALUE, Long.MAX_VALUE};
        for (long row : rows) {
            Checks.due(2, "write(" + row + ", 8)", new WrongClocks().write(row, 8), 8);
            Checks.due(2, "write(" + row + ", 1)", new WrongClocks().write(row, 1), 1);
        }
        // the bytes of the places ahead of 8 n and none behind them
        WrongClocks x = new WrongClocks();
        x.write(0x7064616572_6e7520L, 7);
        Checks.due(2, "the eighth byte is not written", x.count(3), 7);
        Checks.due(4, "fault() of \" unread\"", x.fault(), NONE);
    }

    private static void clock() {
        WrongClocks x = Checks.told(HOUSE + ";now 7 5");
        clockBounds(6, "clock's clock", k -> x.clock(k, 2), 0, 719);
        bounds(6, "clock's what", what -> x.clock(7, what), 0, 0, 5, 5);
        bounds(6, "a STOPPED clock's what", what -> x.clock(2, what), 0, 2, 5, NONE);
    }

    private static void shows() {
        WrongClocks x = Checks.told(HOUSE);
        clockBounds(7, "shows' clock", k -> x.shows(k, 10, 0), 10, 10);
        bounds(7, "shows' minute", t -> x.shows(0, t, 0), 0, 0, 4319, 719);
        bounds(7, "shows' minute, back", t -> x.shows(1, t, 1), 0, 0, 4319, 1);
        bounds(7, "shows' minute, stopped", t -> x.shows(2, t, 1), 0, 719, 4319, 719);
        bounds(7, "shows' end", end -> x.shows(3, 1440, end), 0, 600, 1, 120);
        bounds(7, "shows' end, stopped", end -> x.shows(2, 1440, end), 0, 719, 1, 719);
    }

    private static void can() {
        WrongClocks x = Checks.told(HOUSE);
        clockBounds(8, "can's clock", k -> x.can(k, 10, 10), 1, 1);
        bounds(8, "can's minute", t -> x.can(0, t, 719), 0, 0, 4319, 1);
        bounds(8, "can's minute", t -> x.can(0, t, 0), 0, 1, 4319, 0);
        bounds(8, "can's m at 4319", m -> x.can(0, 4319, m), 0, 0, 719, 1);
        bounds(8, "can's m at 0", m -> x.can(0, 0, m), 0, 1, 719, 0);
        bounds(8, "can's m, stopped", m -> x.can(2, 0, m), 0, 0, 719, 1);
    }

    private static void timesAndWhat() {
        WrongClocks x = Checks.told(HOUSE + ";now 0 719;now 7 719");
        bounds(9, "fits' minute", x::fits, 0, 0, 4319, 129);
        WrongClocks one = Checks.told("going 1 0 0 0 0;stopped 5 0;now 1 0");
        bounds(10, "times' what", one::times, 0, 7, 3, 6);
        bounds(12, "next's what", one::next, 0, 5, 1, 7);
        WrongClocks two = Checks.told("going 0 0 0 120 120;stopped 1 5;now 0 100;now 1 6");
        bounds(11, "liars' what", two::liars, 0, 1, 2, 100);
    }

    private static void note() {
        IntFunction<WrongClocks> made = unused -> Checks.told(HOUSE);
        clockBounds(13, "note's clock", k -> made.apply(k).note(k, 0, 0), 1, 1);
        bounds(13, "note's minute", t -> made.apply(t).note(0, t, 0), 0, 1, 4319, 1);
        bounds(13, "note's m", m -> made.apply(m).note(0, 0, m), 0, 1, 719, 1);
        // the greatest MINUTE and m are noted as they are: 0 at 0 and 719 at 4319 are just one's who gains nothing
        WrongClocks x = made.apply(0);
        x.note(0, 0, 0);
        x.note(0, 4319, 719);
        Checks.due(15, "rates(0, 0)", x.rates(0, 0), 1);
        Checks.due(15, "rates(0, 1)", x.rates(0, 1), 120);
    }

    private static void rates() {
        WrongClocks x = Checks.told(HOUSE);
        x.note(0, 0, 0);
        x.note(0, 617, 619);
        clockBounds(15, "rates' clock", k -> x.rates(k, 0), 5, 241);
        bounds(15, "rates' what", what -> x.rates(0, what), 0, 5, 2, 127);
        bounds(15, "rates' what without notes", what -> x.rates(7, what), 0, 241, 2, 240);
    }

    private static void again() {
        WrongClocks x = Checks.told("going 0 0 0 120 120;going 1 0 0 120 120;going 2 0 0 120 120;going 3 0 0 120 120");
        Checks.tell(x, "going 4 0 0 120 120;going 5 0 0 120 120;going 6 0 0 120 120;going 7 0 0 120 120");
        // 2 is one CLOCK alone, 3 the least set of two, 255 all of them, 256 the CLOCK 8
        bounds(16, "again's set", set -> x.again(set, 5), 3, 5, 255, 5);
        for (int k = 0; k < 8; k++) {
            Checks.due(16, "again of " + k + " alone", x.again(1 << k, 5), OUTSIDE);
            Checks.due(16, "again of " + k + " and 8", x.again(1 << k | 256, 5), OUTSIDE);
            Checks.due(16, "again of " + k + " and 7 or 0", x.again(1 << k | (k == 7 ? 1 : 128), 5), 5);
        }
        Checks.due(16, "again of none", x.again(0, 5), OUTSIDE);
        bounds(16, "again's minute", t -> x.again(255, t), 0, 0, 9999999, 9999999);
        bounds(16, "again's minute", t -> x.again(129, t), 0, 0, 9999999, 9999999);
    }

    private static void stopped() {
        WrongClocks x = Checks.told("stopped 0 5;stopped 7 6;going 3 0 0 120 120");
        clockBounds(17, "stopped's clock", k -> x.stopped(k, 3, 1), 5, 6);
        bounds(17, "stopped's what", what -> x.stopped(0, 3, what), 0, 6, 2, 3605);
        WrongClocks y = Checks.told("going 0 0 0 120 120;going 7 0 1 120 120;stopped 3 5");
        clockBounds(17, "stopped's make", make -> y.stopped(3, make, 1), 5, 4);
    }

    private static void setBy() {
        WrongClocks x = Checks.told("going 0 0 0 120 120;going 7 0 0 120 120;back 3 0 0 120 120;now 0 80;now 7 200");
        clockBounds(18, "setBy's clock", k -> x.setBy(k, 3, 200, 1), 60, 0);
        clockBounds(18, "setBy's other", other -> {
            WrongClocks y = Checks.told("going 0 0 0 120 120;back 7 0 0 120 120;going 3 0 0 120 120;now 3 80");
            return y.setBy(3, other, 80, 0);
        }, 2, 1);
        Checks.due(18, "setBy's what of 0", x.setBy(7, 3, 200, 0), 1);
        bounds(18, "setBy's what", what -> x.setBy(0, 3, 200, what), 0, 1, 1, 60);
        WrongClocks late = Checks.told("going 0 0 0 120 120;going 1 0 0 120 120;now 0 719");
        bounds(18, "setBy's minute", t -> late.setBy(0, 1, t, 0), 0, 0, 4319, 72);
        WrongClocks early = Checks.told("going 0 0 0 120 120;going 1 0 0 120 120;now 0 0");
        bounds(18, "setBy's minute", t -> early.setBy(0, 1, t, 0), 0, 1, 4319, 0);
    }

    private static void egg() {
        WrongClocks x = Checks.told("going 0 0 0 240 240;going 7 0 0 240 240;back 3 0 0 240 240");
        clockBounds(19, "egg's one", one -> x.egg(one, 3, 0, 1, 1), 13, 13);
        clockBounds(19, "egg's other", other -> x.egg(3, other, 0, 1, 1), 13, 13);
        bounds(19, "egg's minute", t -> x.egg(0, 7, t, 1, 0), 0, 1, 4319, 1);
        bounds(19, "egg's n", n -> x.egg(0, 7, 0, n, 0), 1, 1, 60, 0);
        bounds(19, "egg's n, below", n -> x.egg(0, 7, 0, n, 1), 1, 13, 60, 1);
        bounds(19, "egg's part", part -> x.egg(0, 7, 0, 1, part), 0, 1, 1, 13);
    }

    private static void order() {
        WrongClocks x = Checks.told("going 0 0 0 0 0;going 1 0 0 240 240;going 2 0 0 120 120;going 3 0 0 120 120");
        Checks.tell(x, "going 4 0 0 120 120;going 7 0 0 120 120");
        Checks.due(20, "order(-2)", x.order(-2), OUTSIDE);
        Checks.due(20, "order(least)", x.order(Integer.MIN_VALUE), OUTSIDE);
        Checks.due(20, "order(NONE)", x.order(NONE), 120);
        Checks.due(20, "order(0)", x.order(0), 0);
        Checks.due(20, "order(5)", x.order(5), 7);
        Checks.due(20, "order(6)", x.order(6), NONE);
        Checks.due(20, "order(greatest)", x.order(Integer.MAX_VALUE), NONE);
    }

    private static void keepAndBack() {
        Call keep = k -> Checks.told(HOUSE).keep(k);
        Checks.due(21, "keep(0)", keep.of(0), 5);
        Checks.due(21, "keep(1)", keep.of(1), 5);
        refused(21, "keep", keep, 0, 1, UNKNOWN);
        Call back = k -> {
            WrongClocks x = new WrongClocks();
            x.keep(0);
            Checks.tell(x, HOUSE);
            x.keep(1);
            Checks.tell(x, "gone 7");
            return x.back(k);
        };
        Checks.due(22, "back(0)", back.of(0), 0);
        Checks.due(22, "back(1)", back.of(1), 5);
        refused(22, "back", back, 0, 1, UNKNOWN);
    }

    private static void count() {
        WrongClocks x = Checks.told(HOUSE);
        Checks.write(x, "gone 7");
        bounds(23, "count's what", x::count, 0, 143, 3, 6);
    }

    /** The bounds of K, S, A, L, H of a going or a back line; a sign ahead of a number is no number. */
    private static void numbersOfRunning(String word) {
        int[] greatest = {7, 4319, 719, 240, 240};
        for (int place = 0; place < greatest.length; place++) {
            int[] numbers = greatest.clone();
            numbers[place] = place == 4 ? 240 : 0;
            Checks.faultDue(new WrongClocks(), line(word, numbers), NONE);
            numbers[place] = greatest[place] + 1;
            Checks.faultDue(new WrongClocks(), line(word, numbers), placeOf(word, numbers, place));
            numbers[place] = 9999;
            Checks.faultDue(new WrongClocks(), line(word, numbers), placeOf(word, numbers, place));
            numbers[place] = -1;
            Checks.faultDue(new WrongClocks(), line(word, numbers), placeOf(word, numbers, place));
        }
        Checks.faultDue(new WrongClocks(), line(word, greatest), NONE);
        Checks.faultDue(new WrongClocks(), line(word, new int[] {0, 0, 0, 0, 0}), NONE);
    }

    private static String line(String word, int[] numbers) {
        StringBuilder line = new StringBuilder(word);
        for (int number : numbers) {
            line.append(' ').append(number);
        }
        return line.toString();
    }

    private static int placeOf(String word, int[] numbers, int place) {
        int[] ahead = new int[place];
        System.arraycopy(numbers, 0, ahead, 0, place);
        return line(word, ahead).length() + 1;
    }

    private static void numbersOfOthers() {
        for (String good : new String[] {"stopped 0 0", "stopped 7 719", "gone 0", "gone 7", "unread"}) {
            Checks.faultDue(new WrongClocks(), good, NONE);
        }
        Checks.faultDue(new WrongClocks(), "stopped 8 0", 8);
        Checks.faultDue(new WrongClocks(), "stopped -1 0", 8);
        Checks.faultDue(new WrongClocks(), "stopped 0 720", 10);
        Checks.faultDue(new WrongClocks(), "stopped 0 -1", 10);
        Checks.faultDue(new WrongClocks(), "gone 8", 5);
        Checks.faultDue(new WrongClocks(), "gone -1", 5);
        String told = "stopped 0 1;stopped 7 1;";
        Checks.faultDue(new WrongClocks(), told + "now 0 0", NONE);
        Checks.faultDue(new WrongClocks(), told + "now 7 719", NONE);
        Checks.faultDue(new WrongClocks(), told + "now 8 0", 28);
        Checks.faultDue(new WrongClocks(), told + "now -1 0", 28);
        Checks.faultDue(new WrongClocks(), told + "now 0 720", 30);
        Checks.faultDue(new WrongClocks(), told + "now 0 -1", 30);
    }

    private static void highNotBelowLow() {
        for (int low = 1; low <= 240; low += 239) {
            Checks.faultDue(new WrongClocks(), line("going", new int[] {0, 0, 0, low, low}), NONE);
            int[] below = {0, 0, 0, low, low - 1};
            Checks.faultDue(new WrongClocks(), line("going", below), placeOf("going", below, 4));
            Checks.faultDue(new WrongClocks(), line("back", below), placeOf("back", below, 4));
        }
        Checks.faultDue(new WrongClocks(), "going 0 0 0 0 240", NONE);
        Checks.faultDue(new WrongClocks(), "going 0 0 0 240 0", 16);
        // A may be above L, and H below A
        Checks.faultDue(new WrongClocks(), "going 7 4319 719 5 5", NONE);
    }

    private static void digits() {
        Checks.faultDue(new WrongClocks(), "gone 7", NONE);
        Checks.faultDue(new WrongClocks(), "gone 07", NONE);
        Checks.faultDue(new WrongClocks(), "gone 007", NONE);
        Checks.faultDue(new WrongClocks(), "gone 0007", NONE);
        Checks.faultDue(new WrongClocks(), "gone 00007", 5);
        Checks.faultDue(new WrongClocks(), "gone 00000", 5);
        Checks.faultDue(new WrongClocks(), "gone 4294967303", 5);
        Checks.faultDue(new WrongClocks(), "gone 18446744073709551623", 5);
        Checks.faultDue(new WrongClocks(), "going 0 04319 0 0 0", 8);
        // the signs next to 0 and 9
        Checks.faultDue(new WrongClocks(), "gone /", 5);
        Checks.faultDue(new WrongClocks(), "gone :", 5);
        Checks.faultDue(new WrongClocks(), "gone 0/", 6);
        Checks.faultDue(new WrongClocks(), "gone 0:", 6);
        WrongClocks x = Checks.told("stopped 0007 0719");
        Checks.due(6, "zeros ahead do not count", x.clock(7, 2), 719);
    }

    private static void leastAndGreatestAreTold() {
        WrongClocks x = Checks.told("going 0 0 0 0 0;back 7 4319 719 240 240;stopped 1 0;stopped 6 719");
        int[][] wants = {{0, 0, 0, 0, 0, NONE}, {2, NONE, 0, NONE, NONE, NONE}};
        for (int k = 0; k < wants.length; k++) {
            for (int what = 0; what < 6; what++) {
                Checks.due(6, "clock(" + k + ", " + what + ")", x.clock(k, what), wants[k][what]);
            }
        }
        int[] greatest = {1, 4319, 719, 240, 240, NONE};
        for (int what = 0; what < 6; what++) {
            Checks.due(6, "clock(7, " + what + ")", x.clock(7, what), greatest[what]);
        }
        Checks.due(6, "clock(6, 2)", x.clock(6, 2), 719);
        Checks.tell(x, "now 0 0;now 7 719");
        Checks.due(6, "clock(0, 5)", x.clock(0, 5), 0);
        Checks.due(6, "clock(7, 5)", x.clock(7, 5), 719);
        Checks.write(x, "now 7 720");
        Checks.due(5, "house() of a number too large", x.house(), NOT);
        Checks.due(6, "clock(7, 5)", x.clock(7, 5), 719);
    }
}
