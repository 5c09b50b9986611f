/** Promises 19 to 22: an egg by two clocks, an order of setting them, a house kept. */
public final class KitchenTest {
    private static final int NONE = WrongClocks.NONE, UNKNOWN = WrongClocks.UNKNOWN;
    private static final int OUTSIDE = WrongClocks.OUTSIDE, NOT = WrongClocks.NOT;

    private KitchenTest() {
    }

    public static void main(String[] args) {
        eggByOne();
        eggByTwo();
        eggRefused();
        orders();
        orderOfSome();
        orderRefused();
        kept();
        keptRefused();
        Checks.end();
    }

    private static void eggByOne() {
        WrongClocks x = Checks.told("going 0 0 0 240 240;back 1 100 5 240 240;going 2 0 0 120 120;going 3 0 0 0 0");
        for (int k = 0; k < 2; k++) {
            // a minute of it is 12 / 13 of one: 1, 6, 13 of them for 1, 6, 12 MINUTES
            eggDue(x, k, k, 0, 1, 1, 13);
            eggDue(x, k, k, 0, 6, 6, 13);
            eggDue(x, k, k, 4319, 12, 0, 1);
            eggDue(x, k, k, 100, 60, 0, 1);
            eggDue(x, k, k, 100, 59, 1, 13);
        }
        eggDue(x, 2, 2, 17, 60, 0, 1);
        // a minute of it is 12 / 11
        eggDue(x, 3, 3, 0, 1, 1, 11);
        eggDue(x, 3, 3, 0, 6, 6, 11);
        eggDue(x, 3, 3, 0, 60, 0, 1);
    }

    private static void eggByTwo() {
        WrongClocks x = Checks.told("going 0 0 0 120 120;going 1 0 7 130 130;going 2 0 0 0 0;going 3 0 0 240 240;back 4 0 9 120 120");
        eggDue(x, 0, 4, 5, 9, 0, 1);
        // its minutes are 144 / 145: by 145 of them it would be exact, but 60 beginnings do not reach so far
        eggDue(x, 0, 1, 0, 4, 4, 145);
        eggDue(x, 0, 1, 1, 1, 2, 145);
        // the beginnings come nearer one by one; a sixty-first would be nearer still
        eggDue(x, 1, 0, 79, 1, 6, 145);
        // minutes of 12 / 11 and of 12 / 13: lengths of 12 k / 143, nearest to 572 (4 MINUTES) is 576, to 143 is 144
        eggDue(x, 2, 3, 0, 4, 4, 143);
        eggDue(x, 3, 2, 0, 1, 1, 143);
        // minutes of 288 / 289, those of the other one 1 / 289 of a MINUTE later
        Checks.tell(x, "going 5 0 0 125 125;going 6 1 0 125 125");
        eggDue(x, 5, 6, 0, 1, 0, 1);
    }

    private static void eggDue(WrongClocks x, int one, int other, int minute, int n, long above, long below) {
        String call = "egg(" + one + ", " + other + ", " + minute + ", " + n;
        Checks.due(19, call + ", 0)", x.egg(one, other, minute, n, 0), above);
        Checks.due(19, call + ", 1)", x.egg(one, other, minute, n, 1), below);
    }

    private static void eggRefused() {
        WrongClocks x = Checks.told("going 0 0 0 120 120;stopped 1 0;going 2 0 0 0 1;back 3 0 0 0 0");
        Checks.due(19, "by a BACK one", x.egg(0, 3, 0, 60, 1) > 0 ? 1 : 0, 1);
        Checks.due(19, "egg(4, 0, -1, 1, 0)", x.egg(4, 0, -1, 1, 0), UNKNOWN);
        Checks.due(19, "egg(0, 4, -1, 1, 0)", x.egg(0, 4, -1, 1, 0), UNKNOWN);
        Checks.due(19, "egg(-1, 0, 0, 1, 0)", x.egg(-1, 0, 0, 1, 0), UNKNOWN);
        Checks.due(19, "egg(0, 8, 0, 1, 0)", x.egg(0, 8, 0, 1, 0), UNKNOWN);
        for (int bad : new int[] {-1, 4320, Integer.MAX_VALUE, Integer.MIN_VALUE}) {
            Checks.due(19, "egg(0, 0, " + bad + ", 1, 0)", x.egg(0, 0, bad, 1, 0), OUTSIDE);
            Checks.due(19, "egg(0, 0, 0, " + bad + ", 0)", x.egg(0, 0, 0, bad, 0), OUTSIDE);
            Checks.due(19, "egg(0, 0, 0, 1, " + bad + ")", x.egg(0, 0, 0, 1, bad), OUTSIDE);
            Checks.due(19, "egg(1, 2, " + bad + ", 1, 0)", x.egg(1, 2, bad, 1, 0), OUTSIDE);
        }
        Checks.due(19, "egg(0, 0, 0, 0, 0)", x.egg(0, 0, 0, 0, 0), OUTSIDE);
        Checks.due(19, "egg(0, 0, 0, 61, 0)", x.egg(0, 0, 0, 61, 0), OUTSIDE);
        Checks.due(19, "egg(0, 0, 0, 1, 2)", x.egg(0, 0, 0, 1, 2), OUTSIDE);
        for (int bad = 1; bad <= 2; bad++) {
            Checks.due(19, "egg(" + bad + ", 0, 0, 1, 0)", x.egg(bad, 0, 0, 1, 0), NOT);
            Checks.due(19, "egg(0, " + bad + ", 0, 1, 0)", x.egg(0, bad, 0, 1, 0), NOT);
        }
    }

    private static void orders() {
        // 5, -3, -2 in the day: one of the two that lose, that which gains, the other one
        WrongClocks x = Checks.told("going 0 0 0 125 125;going 1 0 0 117 117;going 2 0 0 118 118");
        orderDue(x, 3, 1, 0, 2);
        Checks.tell(x, "going 1 0 0 115 115;gone 2");
        orderDue(x, 5, 0, 1);
        // all at once is the greatest, so that any order is as good
        Checks.tell(x, "going 1 0 0 121 121;going 2 0 0 122 122");
        orderDue(x, 8, 0, 1, 2);
        Checks.tell(x, "going 0 0 0 0 0;going 1 0 0 0 0;going 2 0 0 240 240;going 3 0 0 240 240;going 4 0 0 120 120");
        orderDue(x, 120, 0, 2, 1, 3, 4);
        Checks.tell(x, "going 5 0 0 240 240");
        orderDue(x, 120, 0, 2, 1, 3, 4, 5);
        Checks.tell(x, "gone 0;gone 1;gone 2;gone 3;gone 4;going 5 9 9 7 7");
        orderDue(x, 113, 5);
    }

    private static void orderOfSome() {
        WrongClocks x = Checks.told("back 0 0 0 240 240;stopped 1 0;going 2 0 0 0 240;going 3 0 0 130 130;going 7 0 0 115 115");
        orderDue(x, 5, 7, 3);
    }

    private static void orderDue(WrongClocks x, int greatest, int... clocks) {
        Checks.due(20, "order(NONE)", x.order(NONE), greatest);
        for (int i = 0; i < clocks.length; i++) {
            Checks.due(20, "order(" + i + ")", x.order(i), clocks[i]);
        }
        Checks.due(20, "order(" + clocks.length + ")", x.order(clocks.length), NONE);
        Checks.due(20, "order(6)", x.order(6), NONE);
        Checks.due(20, "order of the greatest number", x.order(Integer.MAX_VALUE), NONE);
    }

    private static void orderRefused() {
        WrongClocks x = Checks.told("back 0 0 0 240 240;stopped 1 0;going 2 0 0 0 240");
        Checks.due(20, "order(NONE) of none", x.order(NONE), NOT);
        Checks.due(20, "order(7) of none", x.order(7), NOT);
        Checks.due(20, "order(-2) of none", x.order(-2), OUTSIDE);
        Checks.tell(x, "going 0 0 0 0 0;going 1 0 0 0 0;going 2 0 0 0 0;going 3 0 0 0 0;going 4 0 0 0 0;going 5 0 0 0 0");
        Checks.due(20, "order(NONE) of six", x.order(NONE), 720);
        Checks.tell(x, "going 6 0 0 0 0");
        Checks.due(20, "order(NONE) of seven", x.order(NONE), NOT);
        Checks.due(20, "order(0) of seven", x.order(0), NOT);
        Checks.tell(x, "going 7 0 0 0 0");
        Checks.due(20, "order(0) of eight", x.order(0), NOT);
        Checks.due(20, "order(-2) of eight", x.order(-2), OUTSIDE);
        Checks.due(20, "order of the least number", x.order(Integer.MIN_VALUE), OUTSIDE);
    }

    private static void kept() {
        WrongClocks x = Checks.told("going 0 0 0 120 120;stopped 1 5;now 0 100");
        x.note(0, 0, 0);
        x.note(0, 1440, 5);
        Checks.due(21, "keep(0)", x.keep(0), 2);
        Checks.write(x, "gone 0");
        Checks.due(21, "keep leaves the text, and back too", x.back(0), 2);
        Checks.due(21, "count(3)", x.count(3), 6);
        x.house();
        x.burn();
        x.note(1, 0, 0);
        Checks.tell(x, "now 1 6;back 4 0 0 0 0;back 5 0 0 0 0");
        Checks.due(21, "keep(1)", x.keep(1), 3);
        for (int twice = 0; twice < 2; twice++) {
            Checks.write(x, "unread");
            Checks.due(22, "back(0)", x.back(0), 2);
            Checks.due(22, "the text is as it was", x.erase(), 6);
            Checks.due(22, "told", x.count(0), 3);
            Checks.due(22, "READ", x.clock(0, 5), 100);
            Checks.due(22, "READ", x.clock(1, 5), NONE);
            Checks.due(22, "notes", x.count(2), 2);
            Checks.due(22, "notes of it", x.rates(0, 1), 125);
            Checks.due(22, "times", x.times(0), 6);
            Checks.due(22, "back(1)", x.back(1), 3);
            Checks.due(22, "told", x.count(0), 50);
            Checks.due(22, "READ", x.count(1), 2);
            Checks.due(22, "notes", x.count(2), 1);
            Checks.due(22, "times", x.times(0), 0);
            // what is done behind it does not reach what is kept
            Checks.tell(x, "unread;gone 4;stopped 1 7");
            x.burn();
        }
        Checks.due(21, "keep(0) again", x.keep(0), 2);
        Checks.due(22, "back(1)", x.back(1), 3);
        Checks.due(22, "back(0)", x.back(0), 2);
        Checks.due(22, "told", x.count(0), 34);
        Checks.due(22, "notes", x.count(2), 0);
    }

    private static void keptRefused() {
        WrongClocks x = new WrongClocks();
        for (int bad : new int[] {-1, 2, Integer.MAX_VALUE, Integer.MIN_VALUE}) {
            Checks.due(21, "keep(" + bad + ")", x.keep(bad), UNKNOWN);
            Checks.due(22, "back(" + bad + ")", x.back(bad), UNKNOWN);
        }
        Checks.due(22, "back(0)", x.back(0), NOT);
        Checks.due(21, "keep(0) of no clocks", x.keep(0), 0);
        Checks.due(22, "back(1)", x.back(1), NOT);
        Checks.tell(x, "stopped 0 0");
        Checks.due(22, "back(0)", x.back(0), 0);
        Checks.due(22, "told", x.count(0), 0);
    }
}
