import java.util.ArrayList;
import java.util.List;

/** Every call that is refused, or that only asks, leaves all as it was. */
public final class RefusalTest {
    private static final int UNKNOWN = WrongClocks.UNKNOWN, OUTSIDE = WrongClocks.OUTSIDE;
    private static final int NOT = WrongClocks.NOT, FULL = WrongClocks.FULL;
    private static final int[] ODD = {Integer.MIN_VALUE, -6, -2, -1, 0, 1, 5, 8, 13, 256, 720, 4320, 10000000, Integer.MAX_VALUE};

    private static WrongClocks x;
    private static List<Long> ahead;

    private RefusalTest() {
    }

    public static void main(String[] args) {
        refusedOfTexts();
        refusedOfClocks();
        refusedOfNotes();
        refusedOfKept();
        anyArguments();
        answersAreRepeated();
        Checks.end();
    }

    /** A house in which nothing is empty; not kept in 1. */
    private static void open() {
        x = Checks.told("going 0 0 0 120 120;back 1 10 700 110 130;stopped 2 77;going 3 5 5 0 0;now 0 100;now 1 610");
        x.note(0, 0, 0);
        x.note(0, 1440, 5);
        x.keep(0);
        Checks.write(x, "gone 0;gone 8");
        ahead = all();
    }

    private static List<Long> all() {
        List<Long> all = new ArrayList<>();
        for (int k = 0; k < 8; k++) {
            for (int what = 0; what < 6; what++) {
                all.add((long) x.clock(k, what));
            }
            for (int what = 0; what < 3; what++) {
                all.add((long) x.rates(k, what));
            }
        }
        for (int what = 0; what < 4; what++) {
            all.add((long) x.count(what));
            all.add((long) x.times(what));
            all.add((long) x.liars(what));
            all.add((long) x.next(what));
        }
        all.add((long) x.fault());
        return all;
    }

    private static void refused(int promise, String call, long got, long want) {
        Checks.due(promise, call, got, want);
        Checks.holds(call + " changes nothing", ahead.equals(all()));
    }

    private static void refusedOfTexts() {
        open();
        refused(2, "write(.., 0)", x.write(0x20L, 0), OUTSIDE);
        refused(2, "write(.., 9)", x.write(0x20L, 9), OUTSIDE);
        refused(5, "house()", x.house(), NOT);
        x.erase();
        Checks.write(x, " ".repeat(199));
        ahead = all();
        refused(2, "write(.., 2)", x.write(0x2020L, 2), FULL);
        refused(2, "write(.., 9)", x.write(0x2020L, 9), OUTSIDE);
        Checks.due(2, "write(.., 1)", x.write(0x20L, 1), 200);
        ahead = all();
        refused(2, "write(.., 1)", x.write(0x20L, 1), FULL);
    }

    private static void refusedOfClocks() {
        open();
        refused(6, "clock(4, 0)", x.clock(4, 0), UNKNOWN);
        refused(6, "clock(0, 6)", x.clock(0, 6), OUTSIDE);
        refused(7, "shows(0, 4320, 0)", x.shows(0, 4320, 0), OUTSIDE);
        refused(8, "can(0, 0, 720)", x.can(0, 0, 720), OUTSIDE);
        refused(9, "fits(4320)", x.fits(4320), OUTSIDE);
        refused(10, "times(4)", x.times(4), OUTSIDE);
        refused(11, "liars(3)", x.liars(3), OUTSIDE);
        refused(12, "next(2)", x.next(2), OUTSIDE);
        refused(16, "again(3, 0)", x.again(3, 0), OUTSIDE);
        refused(17, "stopped(0, 1, 0)", x.stopped(0, 1, 0), NOT);
        refused(18, "setBy(0, 1, 0, 0)", x.setBy(0, 1, 0, 0), NOT);
        refused(19, "egg(0, 1, 0, 1, 0)", x.egg(0, 1, 0, 1, 0), NOT);
        refused(20, "order(-2)", x.order(-2), OUTSIDE);
    }

    private static void refusedOfNotes() {
        open();
        refused(13, "note(4, 0, 0)", x.note(4, 0, 0), UNKNOWN);
        refused(13, "note(0, 4320, 0)", x.note(0, 4320, 0), OUTSIDE);
        refused(13, "note(0, 0, 720)", x.note(0, 0, 720), OUTSIDE);
        for (int i = 3; i <= 12; i++) {
            Checks.due(13, "note " + i, x.note(1, 0, 0), i);
        }
        ahead = all();
        refused(13, "note(0, 9, 9)", x.note(0, 9, 9), FULL);
    }

    private static void refusedOfKept() {
        open();
        refused(21, "keep(2)", x.keep(2), UNKNOWN);
        refused(22, "back(2)", x.back(2), UNKNOWN);
        refused(22, "back(1)", x.back(1), NOT);
        Checks.due(22, "back(0)", x.back(0), 4);
        Checks.holds("what was kept is as it was", ahead.equals(all()));
    }

    /** What only asks takes whatever it is given, answers, and changes nothing. */
    private static void anyArguments() {
        open();
        for (int a : ODD) {
            for (int b : ODD) {
                Checks.holds("clock answers", x.clock(a, b) >= FULL);
                Checks.holds("rates answers", x.rates(a, b) >= FULL);
                Checks.holds("again answers", x.again(a, b) >= FULL);
                for (int c : ODD) {
                    Checks.holds("shows answers", x.shows(a, b, c) >= FULL);
                    Checks.holds("can answers", x.can(a, b, c) >= FULL);
                    Checks.holds("stopped answers", x.stopped(a, b, c) >= FULL);
                    Checks.holds("setBy answers", x.setBy(a, b, c, 0) >= FULL);
                    Checks.holds("egg answers", x.egg(a, b, c, 4, 0) >= FULL);
                    Checks.holds("egg answers", x.egg(0, 3, a, b, c) >= FULL);
                }
            }
            Checks.holds("fits answers", x.fits(a) >= FULL);
            Checks.holds("order answers", x.order(a) >= FULL);
            Checks.holds("count answers", x.count(a) >= FULL);
        }
        Checks.holds("asking changes nothing", ahead.equals(all()));
    }

    private static void answersAreRepeated() {
        open();
        WrongClocks one = x;
        open();
        Checks.holds("the same calls give the same answers", one != x && ahead.equals(all()));
        x.erase();
        Checks.tell(x, "gone 0;gone 1;gone 2;gone 3");
        x = one;
        Checks.holds("one object does not reach another", ahead.equals(all()));
    }
}
