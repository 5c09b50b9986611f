import java.util.ArrayList;
import java.util.List;
import java.util.function.Supplier;

/**
 * What each call refuses: by itself, and two refusals at once (the first of UNKNOWN, OUTSIDE, NOT, FULL is answered).
 * Behind each refused call an object answers all that can be asked just as one that was not called.
 */
public final class RefusalTest {
    private static final int NONE = WrongClocks.NONE, UNKNOWN = WrongClocks.UNKNOWN, OUTSIDE = WrongClocks.OUTSIDE;
    private static final int NOT = WrongClocks.NOT, FULL = WrongClocks.FULL;
    private static final int[] ODD = {Integer.MIN_VALUE, -6, -2, -1, 0, 1, 5, 8, 13, 256, 720, 4320, 10000000, Integer.MAX_VALUE};

    private RefusalTest() {
    }

    private interface Refused {
        long of(WrongClocks x);
    }

    public static void main(String[] args) {
        write();
        house();
        ofClocksAlone();
        ofTimes();
        note();
        rates();
        again();
        stopped();
        setBy();
        egg();
        order();
        keepAndBack();
        lookingAtTheText();
        anyArguments();
        answersAreRepeated();
        Checks.end();
    }

    /** 4 and 7 are not told; 0, 1, 2 are READ; 1 and 6 have L unlike H; only 0 is kept. */
    private static WrongClocks open() {
        WrongClocks x = Checks.told("going 0 0 0 120 120;back 1 10 700 110 130;stopped 2 77;going 3 5 5 0 0");
        Checks.tell(x, "back 5 0 0 120 120;stopped 6 1;now 0 100;now 1 610;now 2 77");
        x.note(0, 0, 0);
        x.note(0, 1440, 5);
        x.keep(0);
        Checks.tell(x, "going 6 0 0 110 130");
        x.note(5, 0, 0);
        Checks.write(x, "now 3 7;gone 1");
        return x;
    }

    /** THE TEXT has 200 bytes, NOTES are 12. */
    private static WrongClocks full() {
        WrongClocks x = open();
        for (int i = 3; i < 12; i++) {
            x.note(1, 0, i);
        }
        Checks.write(x, " ".repeat(200 - x.count(3)));
        return x;
    }

    /** Seven GOING ones with L as H. */
    private static WrongClocks crowd() {
        WrongClocks x = Checks.told("going 0 0 0 0 0;going 1 0 0 0 0;going 2 0 0 0 0;going 3 0 0 0 0");
        Checks.tell(x, "going 4 0 0 0 0;going 5 0 0 0 0;going 6 0 0 0 0;stopped 7 0");
        return x;
    }

    private static void askClocks(WrongClocks x, List<Long> all) {
        for (int k = 0; k < 8; k++) {
            for (int what = 0; what < 6; what++) {
                all.add((long) x.clock(k, what));
            }
            for (int what = 0; what < 3; what++) {
                all.add((long) x.rates(k, what));
            }
        }
        for (int what = 0; what < 4; what++) {
            all.add((long) x.count(what));
            all.add((long) x.times(what));
        }
    }

    /** All that can be asked, and what comes of what is held: the text done, the kept ones back, a note more. */
    private static List<Long> all(WrongClocks x) {
        List<Long> all = new ArrayList<>();
        askClocks(x, all);
        for (int what = 0; what < 3; what++) {
            all.add((long) x.liars(what));
            all.add((long) x.next(what));
            all.add((long) x.order(what - 1));
        }
        all.add((long) x.again(9, 1));
        all.add((long) x.setBy(0, 5, 4000, 0));
        all.add(x.egg(0, 3, 7, 4, 0));
        all.add((long) x.write(' ', 1));
        all.add((long) x.fault());
        all.add((long) x.house());
        askClocks(x, all);
        all.add((long) x.erase());
        all.add((long) x.back(1));
        all.add((long) x.back(0));
        askClocks(x, all);
        all.add((long) x.note(0, 1, 1));
        return all;
    }

    private static void refused(int promise, String call, Supplier<WrongClocks> made, Refused refused, long want) {
        WrongClocks x = made.get();
        Checks.due(promise, call, refused.of(x), want);
        Checks.due(promise, call + " a second time", refused.of(x), want);
        Checks.holds(call + " changes nothing", all(x).equals(all(made.get())));
    }

    private static void refused(int promise, String call, Refused refused, long want) {
        refused(promise, call, RefusalTest::open, refused, want);
    }

    private static void write() {
        refused(2, "write of 0 bytes", x -> x.write(0x3b3b3b3b3b3b3b3bL, 0), OUTSIDE);
        refused(2, "write of -1 bytes", x -> x.write(0x3b3b3b3b3b3b3b3bL, -1), OUTSIDE);
        refused(2, "write of 9 bytes", x -> x.write(0x3b3b3b3b3b3b3b3bL, 9), OUTSIDE);
        refused(2, "write of 1 at 200", RefusalTest::full, x -> x.write(0x3bL, 1), FULL);
        refused(2, "write of 8 at 200", RefusalTest::full, x -> x.write(0x3b3b3b3b3b3b3b3bL, 8), FULL);
        Supplier<WrongClocks> almost = () -> {
            WrongClocks x = open();
            Checks.write(x, " ".repeat(193 - x.count(3)));
            return x;
        };
        refused(2, "write of 8 at 193", almost, x -> x.write(0x3b3b3b3b3b3b3b3bL, 8), FULL);
        // OUTSIDE is ahead of FULL
        refused(2, "write of 0 at 200", RefusalTest::full, x -> x.write(0x3bL, 0), OUTSIDE);
        refused(2, "write of 9 at 200", RefusalTest::full, x -> x.write(0x3bL, 9), OUTSIDE);
        refused(2, "write of 9 at 193", almost, x -> x.write(0x3bL, 9), OUTSIDE);
    }

    private static void house() {
        String[] faulty = {";", " now 3 8;gone 8", ";gone 0;now 0 5", ";gone 0;gone 2;gone 3;gone 5;gone 6;gone 7;gone 4"};
        for (String more : faulty) {
            Supplier<WrongClocks> made = () -> {
                WrongClocks x = open();
                Checks.write(x, more);
                return x;
            };
            refused(5, "house() with a fault behind " + more, made, WrongClocks::house, NOT);
        }
        Supplier<WrongClocks> empty = () -> {
            WrongClocks x = open();
            x.erase();
            return x;
        };
        refused(5, "house() of an empty text", empty, WrongClocks::house, NOT);
        refused(5, "house() of nothing", WrongClocks::new, WrongClocks::house, NOT);
    }

    private static void ofClocksAlone() {
        for (int k : new int[] {-1, 4, 7, 8, 32, Integer.MIN_VALUE, Integer.MAX_VALUE}) {
            refused(6, "clock(" + k + ", 0)", x -> x.clock(k, 0), UNKNOWN);
            refused(6, "clock(" + k + ", 6)", x -> x.clock(k, 6), UNKNOWN);
            refused(7, "shows(" + k + ", 0, 0)", x -> x.shows(k, 0, 0), UNKNOWN);
            refused(7, "shows(" + k + ", 4320, 0)", x -> x.shows(k, 4320, 0), UNKNOWN);
            refused(7, "shows(" + k + ", 0, 2)", x -> x.shows(k, 0, 2), UNKNOWN);
            refused(8, "can(" + k + ", 0, 0)", x -> x.can(k, 0, 0), UNKNOWN);
            refused(8, "can(" + k + ", -1, 0)", x -> x.can(k, -1, 0), UNKNOWN);
            refused(8, "can(" + k + ", 0, 720)", x -> x.can(k, 0, 720), UNKNOWN);
        }
        refused(6, "clock(0, -1)", x -> x.clock(0, -1), OUTSIDE);
        refused(6, "clock(2, 6)", x -> x.clock(2, 6), OUTSIDE);
        refused(7, "shows(0, -1, 0)", x -> x.shows(0, -1, 0), OUTSIDE);
        refused(7, "shows(2, 4320, 0)", x -> x.shows(2, 4320, 0), OUTSIDE);
        refused(7, "shows(0, 0, -1)", x -> x.shows(0, 0, -1), OUTSIDE);
        refused(7, "shows(2, 0, 2)", x -> x.shows(2, 0, 2), OUTSIDE);
        refused(8, "can(0, -1, 0)", x -> x.can(0, -1, 0), OUTSIDE);
        refused(8, "can(2, 4320, 77)", x -> x.can(2, 4320, 77), OUTSIDE);
        refused(8, "can(0, 0, -1)", x -> x.can(0, 0, -1), OUTSIDE);
        refused(8, "can(2, 0, 720)", x -> x.can(2, 0, 720), OUTSIDE);
        refused(8, "can(1, 4320, 720)", x -> x.can(1, 4320, 720), OUTSIDE);
    }

    private static void ofTimes() {
        refused(9, "fits(-1)", x -> x.fits(-1), OUTSIDE);
        refused(9, "fits(4320)", x -> x.fits(4320), OUTSIDE);
        refused(10, "times(-1)", x -> x.times(-1), OUTSIDE);
        refused(10, "times(4)", x -> x.times(4), OUTSIDE);
        refused(11, "liars(-1)", x -> x.liars(-1), OUTSIDE);
        refused(11, "liars(3)", x -> x.liars(3), OUTSIDE);
        refused(12, "next(-1)", x -> x.next(-1), OUTSIDE);
        refused(12, "next(2)", x -> x.next(2), OUTSIDE);
        refused(23, "count(-1)", x -> x.count(-1), OUTSIDE);
        refused(23, "count(4)", x -> x.count(4), OUTSIDE);
        // though none is told, none READ
        refused(9, "fits(4320) of none", WrongClocks::new, x -> x.fits(4320), OUTSIDE);
        refused(10, "times(4) of none", WrongClocks::new, x -> x.times(4), OUTSIDE);
        refused(11, "liars(3) of none", WrongClocks::new, x -> x.liars(3), OUTSIDE);
        refused(12, "next(2) of none", WrongClocks::new, x -> x.next(2), OUTSIDE);
    }

    private static void note() {
        refused(13, "note(4, 0, 0)", x -> x.note(4, 0, 0), UNKNOWN);
        refused(13, "note(-1, 0, 0)", x -> x.note(-1, 0, 0), UNKNOWN);
        refused(13, "note(8, 0, 0)", x -> x.note(8, 0, 0), UNKNOWN);
        refused(13, "note(0, -1, 0)", x -> x.note(0, -1, 0), OUTSIDE);
        refused(13, "note(0, 4320, 0)", x -> x.note(0, 4320, 0), OUTSIDE);
        refused(13, "note(0, 0, -1)", x -> x.note(0, 0, -1), OUTSIDE);
        refused(13, "note(0, 0, 720)", x -> x.note(0, 0, 720), OUTSIDE);
        refused(13, "a thirteenth", RefusalTest::full, x -> x.note(0, 4319, 300), FULL);
        // UNKNOWN is ahead of OUTSIDE, OUTSIDE of FULL
        refused(13, "note(4, 4320, 0)", x -> x.note(4, 4320, 0), UNKNOWN);
        refused(13, "note(4, 0, 720)", x -> x.note(4, 0, 720), UNKNOWN);
        refused(13, "a thirteenth of 4", RefusalTest::full, x -> x.note(4, 0, 0), UNKNOWN);
        refused(13, "a thirteenth of 4 at 4320", RefusalTest::full, x -> x.note(4, 4320, 0), UNKNOWN);
        refused(13, "a thirteenth at 4320", RefusalTest::full, x -> x.note(0, 4320, 0), OUTSIDE);
        refused(13, "a thirteenth of 720", RefusalTest::full, x -> x.note(0, 0, 720), OUTSIDE);
    }

    private static void rates() {
        refused(15, "rates(4, 0)", x -> x.rates(4, 0), UNKNOWN);
        refused(15, "rates(-1, 0)", x -> x.rates(-1, 0), UNKNOWN);
        refused(15, "rates(8, 0)", x -> x.rates(8, 0), UNKNOWN);
        refused(15, "rates(0, -1)", x -> x.rates(0, -1), OUTSIDE);
        refused(15, "rates(0, 3)", x -> x.rates(0, 3), OUTSIDE);
        refused(15, "rates(4, 3)", x -> x.rates(4, 3), UNKNOWN);
        refused(15, "rates(4, -1)", x -> x.rates(4, -1), UNKNOWN);
        // its notes are there, but it is gone
        Supplier<WrongClocks> gone = () -> {
            WrongClocks x = open();
            x.erase();
            Checks.tell(x, "gone 0");
            return x;
        };
        refused(15, "rates(0, 0) of one that is gone", gone, x -> x.rates(0, 0), UNKNOWN);
        refused(15, "rates(0, 3) of one that is gone", gone, x -> x.rates(0, 3), UNKNOWN);
    }

    private static void again() {
        int[] bad = {0, 1, 8, 9 | 2, 9 | 4, 9 | 16, 9 | 32, 9 | 64, 9 | 128, 9 | 256, 2 | 32, 4, 16 | 128, 255, 256, 512 | 9,
            -1, -247, Integer.MIN_VALUE, Integer.MIN_VALUE | 9, Integer.MAX_VALUE};
        for (int set : bad) {
            refused(16, "again(" + set + ", 0)", x -> x.again(set, 0), OUTSIDE);
        }
        for (int minute : new int[] {-1, 10000000, Integer.MIN_VALUE, Integer.MAX_VALUE}) {
            refused(16, "again(9, " + minute + ")", x -> x.again(9, minute), OUTSIDE);
            refused(16, "again(1, " + minute + ")", x -> x.again(1, minute), OUTSIDE);
        }
    }

    private static void stopped() {
        refused(17, "stopped(4, 0, 0)", x -> x.stopped(4, 0, 0), UNKNOWN);
        refused(17, "stopped(2, 4, 0)", x -> x.stopped(2, 4, 0), UNKNOWN);
        refused(17, "stopped(-1, 0, 0)", x -> x.stopped(-1, 0, 0), UNKNOWN);
        refused(17, "stopped(2, 8, 0)", x -> x.stopped(2, 8, 0), UNKNOWN);
        refused(17, "stopped(2, 0, -1)", x -> x.stopped(2, 0, -1), OUTSIDE);
        refused(17, "stopped(2, 0, 3)", x -> x.stopped(2, 0, 3), OUTSIDE);
        refused(17, "stopped(0, 3, 0)", x -> x.stopped(0, 3, 0), NOT);
        refused(17, "stopped(5, 3, 0)", x -> x.stopped(5, 3, 0), NOT);
        refused(17, "stopped(2, 2, 0)", x -> x.stopped(2, 2, 0), NOT);
        refused(17, "stopped(3, 2, 0)", x -> x.stopped(3, 2, 0), NOT);
        // UNKNOWN is ahead of OUTSIDE and of NOT, OUTSIDE of NOT
        refused(17, "stopped(4, 0, 3)", x -> x.stopped(4, 0, 3), UNKNOWN);
        refused(17, "stopped(2, 4, -1)", x -> x.stopped(2, 4, -1), UNKNOWN);
        refused(17, "stopped(0, 4, 0)", x -> x.stopped(0, 4, 0), UNKNOWN);
        refused(17, "stopped(4, 2, 0)", x -> x.stopped(4, 2, 0), UNKNOWN);
        refused(17, "stopped(0, 4, 3)", x -> x.stopped(0, 4, 3), UNKNOWN);
        refused(17, "stopped(0, 3, 3)", x -> x.stopped(0, 3, 3), OUTSIDE);
        refused(17, "stopped(2, 2, -1)", x -> x.stopped(2, 2, -1), OUTSIDE);
    }

    private static void setBy() {
        refused(18, "setBy(4, 3, 0, 0)", x -> x.setBy(4, 3, 0, 0), UNKNOWN);
        refused(18, "setBy(0, 4, 0, 0)", x -> x.setBy(0, 4, 0, 0), UNKNOWN);
        refused(18, "setBy(8, 3, 0, 0)", x -> x.setBy(8, 3, 0, 0), UNKNOWN);
        refused(18, "setBy(0, -1, 0, 0)", x -> x.setBy(0, -1, 0, 0), UNKNOWN);
        refused(18, "setBy(0, 0, 0, 0)", x -> x.setBy(0, 0, 0, 0), OUTSIDE);
        refused(18, "setBy(0, 3, -1, 0)", x -> x.setBy(0, 3, -1, 0), OUTSIDE);
        refused(18, "setBy(0, 3, 4320, 0)", x -> x.setBy(0, 3, 4320, 0), OUTSIDE);
        refused(18, "setBy(0, 3, 0, -1)", x -> x.setBy(0, 3, 0, -1), OUTSIDE);
        refused(18, "setBy(0, 3, 0, 2)", x -> x.setBy(0, 3, 0, 2), OUTSIDE);
        refused(18, "a BACK one", x -> x.setBy(1, 3, 0, 0), NOT);
        refused(18, "a STOPPED one", x -> x.setBy(2, 3, 0, 0), NOT);
        refused(18, "one that is not READ", x -> x.setBy(3, 5, 0, 0), NOT);
        refused(18, "by a STOPPED one", x -> x.setBy(0, 2, 0, 0), NOT);
        refused(18, "by a BACK one with L unlike H", x -> x.setBy(0, 1, 0, 0), NOT);
        refused(18, "by a GOING one with L unlike H", x -> x.setBy(0, 6, 0, 0), NOT);
        // UNKNOWN is ahead of OUTSIDE and of NOT, OUTSIDE of NOT
        refused(18, "setBy(4, 4, 0, 0)", x -> x.setBy(4, 4, 0, 0), UNKNOWN);
        refused(18, "setBy(8, 8, 0, 0)", x -> x.setBy(8, 8, 0, 0), UNKNOWN);
        refused(18, "setBy(4, 3, 4320, 0)", x -> x.setBy(4, 3, 4320, 0), UNKNOWN);
        refused(18, "setBy(0, 4, 0, 2)", x -> x.setBy(0, 4, 0, 2), UNKNOWN);
        refused(18, "setBy(2, 4, 0, 0)", x -> x.setBy(2, 4, 0, 0), UNKNOWN);
        refused(18, "setBy(4, 2, 0, 0)", x -> x.setBy(4, 2, 0, 0), UNKNOWN);
        refused(18, "setBy(2, 2, 0, 0)", x -> x.setBy(2, 2, 0, 0), OUTSIDE);
        refused(18, "setBy(3, 3, 0, 0)", x -> x.setBy(3, 3, 0, 0), OUTSIDE);
        refused(18, "setBy(5, 3, 4320, 0)", x -> x.setBy(5, 3, 4320, 0), OUTSIDE);
        refused(18, "setBy(0, 2, -1, 0)", x -> x.setBy(0, 2, -1, 0), OUTSIDE);
        refused(18, "setBy(0, 1, 0, 2)", x -> x.setBy(0, 1, 0, 2), OUTSIDE);
    }

    private static void egg() {
        refused(19, "egg(4, 0, 0, 1, 0)", x -> x.egg(4, 0, 0, 1, 0), UNKNOWN);
        refused(19, "egg(0, 4, 0, 1, 0)", x -> x.egg(0, 4, 0, 1, 0), UNKNOWN);
        refused(19, "egg(-1, 0, 0, 1, 0)", x -> x.egg(-1, 0, 0, 1, 0), UNKNOWN);
        refused(19, "egg(0, 8, 0, 1, 0)", x -> x.egg(0, 8, 0, 1, 0), UNKNOWN);
        refused(19, "egg(0, 3, -1, 1, 0)", x -> x.egg(0, 3, -1, 1, 0), OUTSIDE);
        refused(19, "egg(0, 3, 4320, 1, 0)", x -> x.egg(0, 3, 4320, 1, 0), OUTSIDE);
        refused(19, "egg(0, 3, 0, 0, 0)", x -> x.egg(0, 3, 0, 0, 0), OUTSIDE);
        refused(19, "egg(0, 3, 0, 61, 0)", x -> x.egg(0, 3, 0, 61, 0), OUTSIDE);
        refused(19, "egg(0, 3, 0, 1, -1)", x -> x.egg(0, 3, 0, 1, -1), OUTSIDE);
        refused(19, "egg(0, 3, 0, 1, 2)", x -> x.egg(0, 3, 0, 1, 2), OUTSIDE);
        for (int bad : new int[] {1, 2, 6}) {
            refused(19, "egg(" + bad + ", 0, 0, 1, 0)", x -> x.egg(bad, 0, 0, 1, 0), NOT);
            refused(19, "egg(0, " + bad + ", 0, 1, 1)", x -> x.egg(0, bad, 0, 1, 1), NOT);
            refused(19, "egg(" + bad + ", " + bad + ", 0, 1, 0)", x -> x.egg(bad, bad, 0, 1, 0), NOT);
            // UNKNOWN is ahead of OUTSIDE and of NOT, OUTSIDE of NOT
            refused(19, "egg(" + bad + ", 4, 0, 1, 0)", x -> x.egg(bad, 4, 0, 1, 0), UNKNOWN);
            refused(19, "egg(4, " + bad + ", 0, 1, 0)", x -> x.egg(4, bad, 0, 1, 0), UNKNOWN);
            refused(19, "egg(" + bad + ", 0, 4320, 1, 0)", x -> x.egg(bad, 0, 4320, 1, 0), OUTSIDE);
            refused(19, "egg(0, " + bad + ", 0, 0, 0)", x -> x.egg(0, bad, 0, 0, 0), OUTSIDE);
            refused(19, "egg(0, " + bad + ", 0, 1, 2)", x -> x.egg(0, bad, 0, 1, 2), OUTSIDE);
        }
        refused(19, "egg(4, 0, 4320, 1, 0)", x -> x.egg(4, 0, 4320, 1, 0), UNKNOWN);
        refused(19, "egg(0, 4, 0, 61, 0)", x -> x.egg(0, 4, 0, 61, 0), UNKNOWN);
        refused(19, "egg(0, 4, 0, 1, 2)", x -> x.egg(0, 4, 0, 1, 2), UNKNOWN);
        // itself is no refusal, nor is a BACK one
        Checks.due(19, "egg(5, 5, 0, 60, 1)", open().egg(5, 5, 0, 60, 1), 1);
    }

    private static void order() {
        refused(20, "order(-2)", x -> x.order(-2), OUTSIDE);
        refused(20, "order(NONE) of none", WrongClocks::new, x -> x.order(NONE), NOT);
        refused(20, "order(0) of none", WrongClocks::new, x -> x.order(0), NOT);
        refused(20, "order(9) of none", WrongClocks::new, x -> x.order(9), NOT);
        refused(20, "order(NONE) of seven", RefusalTest::crowd, x -> x.order(NONE), NOT);
        refused(20, "order(6) of seven", RefusalTest::crowd, x -> x.order(6), NOT);
        refused(20, "order(9) of seven", RefusalTest::crowd, x -> x.order(9), NOT);
        // OUTSIDE is ahead of NOT
        refused(20, "order(-2) of none", WrongClocks::new, x -> x.order(-2), OUTSIDE);
        refused(20, "order(-2) of seven", RefusalTest::crowd, x -> x.order(-2), OUTSIDE);
    }

    private static void keepAndBack() {
        for (int k : new int[] {-1, 2, Integer.MIN_VALUE, Integer.MAX_VALUE}) {
            refused(21, "keep(" + k + ")", x -> x.keep(k), UNKNOWN);
            refused(22, "back(" + k + ")", x -> x.back(k), UNKNOWN);
            // UNKNOWN is ahead of NOT
            refused(22, "back(" + k + "), nothing kept", WrongClocks::new, x -> x.back(k), UNKNOWN);
        }
        refused(22, "back(1)", x -> x.back(1), NOT);
        refused(22, "back(0) of nothing", WrongClocks::new, x -> x.back(0), NOT);
    }

    /** Looking for a FAULT does no LINE, and none is done of those ahead of a FAULT. */
    private static void lookingAtTheText() {
        refused(4, "fault()", WrongClocks::fault, NONE);
        Supplier<WrongClocks> faulty = () -> {
            WrongClocks x = open();
            Checks.write(x, ";gone 9");
            return x;
        };
        refused(4, "fault() with one", faulty, WrongClocks::fault, 20);
        refused(4, "fault() of a full text", RefusalTest::full, WrongClocks::fault, NONE);
    }

    /** What only asks takes whatever it is given, answers, and changes nothing. */
    private static void anyArguments() {
        List<Long> untouched = all(open());
        for (int a : ODD) {
            for (int b : ODD) {
                WrongClocks x = open();
                Checks.holds("clock answers", x.clock(a, b) >= FULL);
                Checks.holds("rates answers", x.rates(a, b) >= FULL);
                Checks.holds("again answers", x.again(a, b) >= FULL);
                for (int c : ODD) {
                    Checks.holds("shows answers", x.shows(a, b, c) >= FULL);
                    Checks.holds("can answers", x.can(a, b, c) >= FULL);
                    Checks.holds("stopped answers", x.stopped(a, b, c) >= FULL);
                    Checks.holds("setBy answers", x.setBy(a, b, c, 0) >= FULL);
                    Checks.holds("egg answers", x.egg(a, b, c, 4, 0) >= FULL);
                    Checks.holds("egg answers", x.egg(0, 3, a, b, c) >= FULL);
                }
                Checks.holds("fits answers", x.fits(a) >= FULL);
                Checks.holds("order answers", x.order(a) >= FULL);
                Checks.holds("count answers", x.count(a) >= FULL);
                Checks.holds("asking " + a + " and " + b + " changes nothing", untouched.equals(all(x)));
            }
        }
    }

    private static void answersAreRepeated() {
        WrongClocks one = open();
        WrongClocks other = open();
        other.erase();
        Checks.tell(other, "gone 0;gone 1;gone 2;gone 3");
        other.burn();
        Checks.holds("one object does not reach another", all(one).equals(all(open())));
        Checks.holds("what was done changes answers", !all(other).equals(all(open())));
    }
}
