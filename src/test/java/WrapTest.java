/** Where minutes, dials and hands come to their ends: below 0, at 720, at 4319, exactly at a whole minute or a part off. */
public final class WrapTest {
    private static final int NONE = WrongClocks.NONE;

    private WrapTest() {
    }

    public static void main(String[] args) {
        dialBehindTheLast();
        dialBelowTheFirst();
        dialFarOff();
        dialByAPart();
        atSetAllRatesAreOne();
        canOverTheEnd();
        canAtBothEnds();
        canBetweenParts();
        canOfAlmostAll();
        canOfStopped();
        timesAtBothEnds();
        runsOfOneAndMore();
        liarsAtTheEnds();
        nextAtTheEnds();
        ratesOverTheEnd();
        ratesByAPart();
        ratesAtTheEnds();
        againByWholeTurns();
        againWhenTheFirstIsFaster();
        againByAPart();
        againInTheLastMinute();
        stoppedAtTheEnds();
        setByAtTheEnds();
        setByExactly();
        eggBehindTheLastMinute();
        eggAtTheFirstBeginning();
        eggAtTheLastBeginning();
        eggInLowestTerms();
        orderBehindEachDay();
        Checks.end();
    }

    private static void showsDue(String line, int minute, int byLow, int byHigh) {
        WrongClocks x = Checks.told(line);
        Checks.due(7, line + ": shows(0, " + minute + ", 0)", x.shows(0, minute, 0), byLow);
        Checks.due(7, line + ": shows(0, " + minute + ", 1)", x.shows(0, minute, 1), byHigh);
    }

    private static void dialBehindTheLast() {
        showsDue("going 0 0 0 120 120", 719, 719, 719);
        showsDue("going 0 0 0 120 120", 720, 0, 0);
        showsDue("going 0 0 0 120 120", 1440, 0, 0);
        showsDue("going 0 0 0 120 120", 4319, 719, 719);
        showsDue("going 0 0 719 120 120", 1, 0, 0);
        showsDue("going 0 0 719 120 120", 720, 719, 719);
        // ahead of SET a BACK one has still more to go
        showsDue("back 0 4319 719 120 120", 4318, 0, 0);
        showsDue("back 0 4319 719 120 120", 0, 718, 718);
        showsDue("back 0 1 719 120 120", 0, 0, 0);
    }

    private static void dialBelowTheFirst() {
        showsDue("back 0 0 0 120 120", 1, 719, 719);
        showsDue("back 0 0 0 120 120", 720, 0, 0);
        showsDue("back 0 0 0 120 120", 721, 719, 719);
        showsDue("back 0 0 0 120 120", 4319, 1, 1);
        // ahead of SET a GOING one has not yet come to A
        showsDue("going 0 4319 0 120 120", 4318, 719, 719);
        showsDue("going 0 4319 0 120 120", 3599, 0, 0);
        showsDue("going 0 4319 0 120 120", 0, 1, 1);
        showsDue("going 0 1 0 120 120", 0, 719, 719);
    }

    private static void dialFarOff() {
        // 4319 MINUTES are 3959.08 by -120 and 4678.92 by 120
        showsDue("going 0 0 719 0 240", 4319, 358, 357);
        showsDue("back 0 4319 719 0 240", 0, 358, 357);
        showsDue("back 0 0 0 0 240", 4319, 360, 361);
        showsDue("going 0 4319 0 0 240", 0, 360, 361);
    }

    /** No part is cut: what is a twelfth short of a minute is not shown yet, and below 0 it is cut downwards, too. */
    private static void dialByAPart() {
        showsDue("going 0 0 707 240 240", 11, 718, 718);
        showsDue("going 0 0 707 240 240", 12, 0, 0);
        showsDue("going 0 0 0 121 121", 1439, 719, 719);
        showsDue("going 0 0 0 121 121", 1440, 1, 1);
        showsDue("going 0 0 0 119 119", 1, 0, 0);
        showsDue("going 0 0 0 119 119", 1440, 719, 719);
        showsDue("back 0 0 0 119 119", 1, 719, 719);
        showsDue("back 0 0 0 121 121", 1, 718, 718);
        showsDue("back 0 0 0 121 121", 1440, 719, 719);
        showsDue("back 0 0 13 240 240", 12, 0, 0);
        showsDue("back 0 0 13 240 240", 13, 718, 718);
        showsDue("going 0 1 0 0 240", 0, 719, 718);
        showsDue("back 0 1 0 0 240", 0, 0, 1);
    }

    private static void atSetAllRatesAreOne() {
        for (int set : new int[] {0, 1, 4318, 4319}) {
            for (String word : new String[] {"going", "back"}) {
                String line = word + " 0 " + set + " 719 0 240";
                showsDue(line, set, 719, 719);
                Checks.canOnly(line, set, 719, 719);
            }
        }
    }

    private static void canOverTheEnd() {
        // 719.92 .. 720.08, 730 .. 732
        Checks.canOnly("going 0 0 719 0 240", 1, 719, 720);
        Checks.canOnly("going 0 0 719 0 240", 12, 730, 732);
        // 709.42 .. 711.58 and 719 .. 721
        Checks.canOnly("going 0 0 708 0 240", 12, 719, 721);
        // -0.92 .. -1.08, 12 of them -11 .. -13
        Checks.canOnly("back 0 0 0 0 240", 1, 718, 719);
        Checks.canOnly("back 0 0 0 0 240", 12, 707, 709);
        Checks.canOnly("back 0 0 12 0 240", 12, 719, 721);
        // ahead of SET
        Checks.canOnly("going 0 1 0 0 240", 0, 718, 719);
        Checks.canOnly("going 0 12 12 0 240", 0, 719, 721);
        Checks.canOnly("back 0 1 719 0 240", 0, 719, 720);
        Checks.canOnly("back 0 12 708 0 240", 0, 719, 721);
    }

    /** What is shown by L exactly and by H exactly can be shown; what is a part below or a minute above cannot. */
    private static void canAtBothEnds() {
        Checks.canOnly("going 0 0 0 120 240", 12, 12, 13);
        Checks.canOnly("going 0 0 0 0 120", 12, 11, 12);
        Checks.canOnly("back 0 0 40 120 240", 12, 27, 28);
        Checks.canOnly("back 0 0 40 0 120", 12, 28, 29);
        Checks.canOnly("going 0 12 40 120 240", 0, 27, 28);
        Checks.canOnly("going 0 12 40 0 120", 0, 28, 29);
        Checks.canOnly("back 0 12 40 120 240", 0, 52, 53);
        Checks.canOnly("back 0 12 40 0 120", 0, 51, 52);
        Checks.canOnly("going 0 0 0 121 121", 1440, 721, 721);
        Checks.canOnly("going 0 0 0 119 121", 1440, 719, 721);
    }

    /** Between whole rates lie others: by one of them it stands at a minute which no whole one shows. */
    private static void canBetweenParts() {
        // 4319 by 0, a part below 4322 by 1
        Checks.canOnly("going 0 0 0 120 121", 4319, 719, 721);
        Checks.canOnly("back 0 0 0 120 121", 4319, 718, 721);
        Checks.canOnly("going 0 4319 0 239 240", 0, 361, 364);
    }

    private static void canOfAlmostAll() {
        Checks.canOnly("going 0 0 0 0 240", 4319, 0, 719);
        Checks.canOnly("back 0 4319 5 0 240", 0, 0, 719);
        // 4309 MINUTES: 3949.92 .. 4668.08, one of each; 4308 MINUTES: 3949 .. 4667, one is left out
        Checks.canOnly("going 0 0 0 0 240", 4309, 0, 719);
        Checks.canOnly("going 0 0 0 0 240", 4308, 349, 349 + 718);
        Checks.canOnly("back 0 4308 0 0 240", 0, 349, 349 + 718);
        Checks.canOnly("going 0 4308 0 0 240", 0, 373, 373 + 718);
    }

    private static void canOfStopped() {
        Checks.canOnly("stopped 0 0", 0, 0, 0);
        Checks.canOnly("stopped 0 719", 4319, 719, 719);
    }

    private static void timesDue(String text, int... wants) {
        WrongClocks x = Checks.told(text);
        for (int what = 0; what < 4; what++) {
            Checks.due(10, text + ": times(" + what + ")", x.times(what), wants[what]);
        }
    }

    private static void timesAtBothEnds() {
        timesDue("going 0 0 0 120 120;now 0 0", 6, 0, 3600, 6);
        timesDue("going 0 0 0 120 120;now 0 719", 6, 719, 4319, 6);
        // one alone: the first MINUTE of all, the last of all
        timesDue("going 0 0 0 120 120;going 1 0 0 240 240;now 0 0;now 1 0", 1, 0, 0, 1);
        timesDue("going 0 4319 0 120 120;going 1 4319 0 240 240;now 0 0;now 1 0", 1, 4319, 4319, 1);
        timesDue("going 0 4318 0 120 120;going 1 4318 0 240 240;now 0 1;now 1 1", 1, 4319, 4319, 1);
    }

    private static void runsOfOneAndMore() {
        // 0 and 4319 are no neighbours: 0 .. 1, 716 .. 726, .. 4291 .. 4319
        timesDue("going 0 0 0 110 130;now 0 0", 186, 0, 4319, 7);
        timesDue("stopped 0 5;now 0 5", 4320, 0, 4319, 1);
        timesDue("stopped 0 5;now 0 4", 0, NONE, NONE, 0);
        // 0 and 1 are one run, then one MINUTE each
        timesDue("going 0 0 0 0 0;now 0 0", 7, 0, 3928, 6);
        // 0 and 1, then 721, 1442, 2162, 2883, 3603
        timesDue("going 0 0 0 119 119;now 0 0", 7, 0, 3603, 6);
    }

    private static void liarsDue(String text, int... wants) {
        WrongClocks x = Checks.told(text);
        for (int what = 0; what < 3; what++) {
            Checks.due(11, text + ": liars(" + what + ")", x.liars(what), wants[what]);
        }
    }

    private static void liarsAtTheEnds() {
        liarsDue("going 0 4319 0 120 120;going 1 4319 0 240 240;now 0 0;now 1 0", 0, 0, 4319);
        // 1 and 2 are right at 4319 alone, 0 lies then
        liarsDue("stopped 0 0;going 1 4319 0 120 120;going 2 4319 0 240 240;now 0 1;now 1 0;now 2 0", 1, 1, 4319);
        // of two sets of one the less by bits, though the other is right earlier
        liarsDue("going 0 0 0 120 120;going 7 0 0 120 120;now 0 0;now 7 719", 1, 1, 719);
        // fewer, though they are more by bits
        liarsDue("going 0 0 0 120 120;going 1 0 0 120 120;going 7 0 0 120 120;now 0 0;now 1 0;now 7 719", 1, 128, 0);
        // one that lies at the first set's MINUTES is not told with the rest
        liarsDue("going 0 0 0 120 120;now 0 0;stopped 7 5", 0, 0, 0);
    }

    private static void nextDue(String text, int clock, int left) {
        WrongClocks x = Checks.told(text);
        Checks.due(12, text + ": next(0)", x.next(0), clock);
        Checks.due(12, text + ": next(1)", x.next(1), left);
    }

    private static void nextAtTheEnds() {
        nextDue("going 7 0 0 120 120", 7, 6);
        nextDue("stopped 0 0;stopped 7 719", 0, 4320);
        nextDue("going 0 0 0 120 121;stopped 7 719", 7, 4320);
        nextDue("going 0 0 0 120 121;back 1 0 0 0 240", NONE, NONE);
        nextDue("stopped 0 0;back 7 0 0 120 120", 7, 6);
        // TIMES are none: 0 by each, and the least of them
        nextDue("stopped 0 0;now 0 1;stopped 6 0;going 7 0 0 120 120", 6, 0);
        nextDue("stopped 0 0;now 0 1;going 7 0 0 120 121", NONE, NONE);
        // TIMES are 719 and its like: 1 shows 719 by each, 2 has each at another dial
        nextDue("going 0 0 0 120 120;going 1 0 0 120 120;back 2 0 0 240 240;now 0 719", 2, 1);
    }

    private static void ratesDue(String line, int[] minutes, int[] dials, int... wants) {
        WrongClocks x = Checks.told(line);
        for (int i = 0; i < minutes.length; i++) {
            x.note(0, minutes[i], dials[i]);
        }
        for (int what = 0; what < 3; what++) {
            Checks.due(15, line + ": rates(0, " + what + ")", x.rates(0, what), wants[what]);
        }
    }

    private static void ratesOverTheEnd() {
        ratesDue("going 0 0 0 120 120", new int[] {0, 1440}, new int[] {719, 0}, 1, 121, 121);
        ratesDue("going 0 0 0 120 120", new int[] {1440, 0}, new int[] {719, 0}, 1, 119, 119);
        ratesDue("back 0 0 0 120 120", new int[] {0, 1440}, new int[] {719, 0}, 1, 119, 119);
        ratesDue("back 0 0 0 120 120", new int[] {0, 1440}, new int[] {0, 719}, 1, 121, 121);
        ratesDue("stopped 0 0", new int[] {0, 4319}, new int[] {719, 719}, 241, 0, 240);
        ratesDue("stopped 0 0", new int[] {0, 4319}, new int[] {719, 0}, 0, NONE, NONE);
        ratesDue("stopped 0 0", new int[] {0, 0}, new int[] {0, 360}, 0, NONE, NONE);
        // 719 twice and then 0: it loses, be it ever so little; it cannot have come to 1 by then
        ratesDue("going 0 0 0 120 120", new int[] {0, 1, 2}, new int[] {719, 719, 0}, 120, 0, 119);
        ratesDue("going 0 0 0 120 120", new int[] {0, 1, 2}, new int[] {719, 719, 1}, 0, NONE, NONE);
        ratesDue("going 0 0 0 120 120", new int[] {0, 1, 2}, new int[] {719, 0, 1}, 241, 0, 240);
    }

    /** By 617 MINUTES a rate is 617 parts: 1439 parts apart leave one HAND, 1440 none. */
    private static void ratesByAPart() {
        ratesDue("going 0 0 0 120 120", new int[] {0, 617}, new int[] {0, 619}, 5, 123, 127);
        ratesDue("going 0 0 0 120 120", new int[] {0, 720}, new int[] {0, 0}, 3, 119, 121);
        ratesDue("going 0 0 0 120 120", new int[] {0, 1440}, new int[] {0, 1}, 1, 121, 121);
        ratesDue("back 0 0 0 120 120", new int[] {0, 617}, new int[] {0, 101}, 5, 123, 127);
        // 1439 MINUTES: a rate is 1439 parts, so that one more and one less leave one HAND each
        ratesDue("going 0 0 0 120 120", new int[] {0, 1439}, new int[] {0, 719}, 3, 119, 121);
        ratesDue("going 0 0 0 120 120", new int[] {0, 1439, 0}, new int[] {0, 719, 1}, 0, NONE, NONE);
        // the first leaves parts that the second one needs, the third takes them
        ratesDue("going 0 0 0 120 120", new int[] {0, 720, 1440}, new int[] {0, 0, 1}, 1, 121, 121);
        ratesDue("going 0 0 0 120 120", new int[] {0, 720, 1440}, new int[] {0, 1, 0}, 0, NONE, NONE);
    }

    private static void ratesAtTheEnds() {
        ratesDue("going 0 0 0 120 120", new int[] {0, 1440}, new int[] {0, 120}, 1, 240, 240);
        ratesDue("going 0 0 0 120 120", new int[] {0, 1440}, new int[] {0, 600}, 1, 0, 0);
        ratesDue("going 0 0 0 120 120", new int[] {0, 1440}, new int[] {0, 121}, 0, NONE, NONE);
        ratesDue("going 0 0 0 120 120", new int[] {0, 1440}, new int[] {0, 599}, 0, NONE, NONE);
        ratesDue("back 0 0 0 120 120", new int[] {0, 1440}, new int[] {0, 600}, 1, 240, 240);
        ratesDue("back 0 0 0 120 120", new int[] {0, 1440}, new int[] {0, 120}, 1, 0, 0);
        // by -120 and by 120 it comes to the same within a minute, by those between to another
        ratesDue("going 0 0 0 120 120", new int[] {0, 4319}, new int[] {0, 359}, 2, 0, 240);
    }

    private static void againDue(String text, int set, int minute, int want) {
        Checks.due(16, text + ": again(" + set + ", " + minute + ")", Checks.told(text).again(set, minute), want);
    }

    private static void againByWholeTurns() {
        String apart = "going 0 0 0 0 0;going 1 0 0 240 240";
        againDue(apart, 3, 0, 0);
        againDue(apart, 3, 1, 4320);
        againDue(apart, 3, 4320, 4320);
        againDue(apart, 3, 4321, 8640);
        againDue(apart, 3, 9999999, 10000800);
        // told the other way round, and SET so that they are apart by turns at once
        againDue("going 0 0 0 240 240;going 1 0 0 0 0", 3, 1, 4320);
        againDue("going 0 0 0 120 120;going 1 720 0 120 120", 3, 77, 77);
        againDue("going 0 4319 719 120 120;going 7 0 0 120 120", 129, 5, 5);
        againDue("going 0 4319 718 120 120;going 7 0 0 120 120", 129, 5, NONE);
    }

    /** The one that is ahead comes up with the other from behind: by 1, 7, 10 minutes in a day. */
    private static void againWhenTheFirstIsFaster() {
        againDue("going 0 0 0 121 121;going 1 0 5 120 120", 3, 0, 7200);
        againDue("going 0 0 0 127 127;going 1 0 21 120 120", 3, 0, 4320);
        againDue("going 0 0 0 127 127;going 1 0 21 120 120", 3, 4321, 1041120);
        againDue("going 0 0 0 130 130;going 1 0 10 120 120", 3, 0, 1440);
        againDue("going 0 0 0 130 130;going 1 0 10 120 120", 3, 1441, 105120);
        againDue("going 0 0 0 240 240;going 1 0 6 0 0", 3, 0, 36);
        againDue("going 0 0 0 0 0;going 1 0 6 240 240", 3, 0, 4284);
        // SET a minute later: 9 to make good; SET so that it is an odd number of parts by two at a time: never
        againDue("going 0 0 0 130 130;going 1 1 10 120 120", 3, 0, 1296);
        againDue("going 0 0 0 123 123;going 1 1 0 121 121", 3, 0, NONE);
        // three: the first and the second each 72 days, the first and the third each 144
        againDue("going 0 0 0 130 130;going 1 0 10 120 120;going 2 0 5 125 125", 7, 0, 1440);
        againDue("going 0 0 0 130 130;going 1 0 10 120 120;going 2 0 5 125 125", 7, 1441, 208800);
    }

    /** They show the same DIAL, but the HANDS do not stand alike: the parts of a minute count. */
    private static void againByAPart() {
        againDue("going 0 0 0 120 120;going 1 0 0 121 121", 3, 1, 1036800);
        againDue("going 0 1 1 121 121;going 1 0 0 121 121", 3, 0, NONE);
        againDue("going 0 1 1 121 121;going 1 0 0 120 120", 3, 0, 1);
        againDue("going 0 1 1 122 122;going 1 0 0 120 120", 3, 2, 518401);
        // 1 a part ahead of 0 at each whole minute, by twice as much: it can never be made good
        againDue("going 0 1 1 121 121;going 1 0 0 119 119", 3, 0, NONE);
    }

    /** Of 1036800 MINUTES the last: the one ahead of it, a round later. */
    private static void againInTheLastMinute() {
        String slow = "going 0 5 5 121 121;going 1 0 0 120 120";
        againDue(slow, 3, 0, 5);
        againDue(slow, 3, 5, 5);
        againDue(slow, 3, 6, 1036805);
        againDue(slow, 3, 1036805, 1036805);
        againDue(slow, 3, 9331205, 9331205);
        againDue(slow, 3, 9331206, 10368005);
        againDue(slow, 3, 9999999, 10368005);
    }

    private static void stoppedDue(String text, int... wants) {
        WrongClocks x = Checks.told(text);
        for (int what = 0; what < 3; what++) {
            Checks.due(17, text + ": stopped(0, 1, " + what + ")", x.stopped(0, 1, what), wants[what]);
        }
    }

    private static void stoppedAtTheEnds() {
        stoppedDue("stopped 0 0;going 1 0 0 120 120", 6, 0, 3600);
        stoppedDue("stopped 0 719;going 1 0 0 120 120", 6, 719, 4319);
        stoppedDue("stopped 0 0;back 1 0 0 120 120", 6, 0, 3600);
        stoppedDue("stopped 0 1;back 1 0 0 120 120", 6, 719, 4319);
        stoppedDue("stopped 0 719;going 1 4319 719 120 120", 6, 719, 4319);
        // L and H count: 0 .. 1, 716 .. 726, .. 4291 .. 4319
        stoppedDue("stopped 0 0;going 1 0 0 110 130", 186, 0, 4319);
        // what is READ of them does not
        stoppedDue("stopped 0 0;going 1 0 0 120 120;now 0 5;now 1 7", 6, 0, 3600);
    }

    private static void setByDue(String text, int minute, int many, int first) {
        WrongClocks x = Checks.told(text);
        Checks.due(18, text + ": setBy(0, 1, " + minute + ", 0)", x.setBy(0, 1, minute, 0), many);
        Checks.due(18, text + ": setBy(0, 1, " + minute + ", 1)", x.setBy(0, 1, minute, 1), first);
    }

    private static void setByAtTheEnds() {
        String right = "going 0 9 9 120 120;going 1 0 0 120 120;";
        // s 0 itself, t itself, the last t; none behind t
        setByDue(right + "now 0 0", 0, 1, 0);
        setByDue(right + "now 0 59", 59, 1, 0);
        setByDue(right + "now 0 60", 60, 2, 0);
        setByDue(right + "now 0 0", 720, 13, 0);
        setByDue(right + "now 0 719", 4319, 72, 0);
        setByDue(right + "now 0 1", 0, 0, NONE);
        // a stroke at the last MINUTE alone
        String late = "going 0 9 9 120 120;going 1 4319 660 240 240;now 0 660";
        setByDue(late, 4319, 1, 4319);
        setByDue(late, 4318, 0, NONE);
        // by one that runs back: 12, 11, .. hours, below 0 too
        setByDue("going 0 0 0 120 120;back 1 0 0 120 120;now 0 660", 60, 1, 60);
        setByDue("going 0 0 0 120 120;back 1 0 0 120 120;now 0 0", 0, 1, 0);
        // it strikes at 59, 119, ..; 1438 less twice s is 0 or 720
        setByDue("going 0 0 0 120 120;back 1 0 719 120 120;now 0 0", 718, 0, NONE);
        setByDue("going 0 0 0 120 120;back 1 0 719 120 120;now 0 0", 719, 2, 359);
    }

    /** A whole hour exactly: a HAND that shows it and is a part of a minute behind does not strike. */
    private static void setByExactly() {
        // 13 hours in 12: at 720 MINUTES first
        setByDue("going 0 0 0 0 240;going 1 0 0 240 240;now 0 60", 719, 0, NONE);
        setByDue("going 0 0 0 0 240;going 1 0 0 240 240;now 0 60", 720, 2, 0);
        setByDue("going 0 0 0 120 120;going 1 0 0 240 240;now 0 60", 719, 0, NONE);
        setByDue("going 0 0 0 120 120;going 1 0 0 240 240;now 0 60", 720, 1, 720);
        setByDue("going 0 0 0 120 120;going 1 0 0 121 121;now 0 0", 4319, 0, NONE);
        setByDue("going 0 0 0 120 120;going 1 0 0 121 121;now 0 719", 4319, 1, 0);
    }

    private static void eggDue(String text, int minute, int n, long above, long below) {
        WrongClocks x = Checks.told(text);
        Checks.due(19, text + ": egg(0, 1, " + minute + ", " + n + ", 0)", x.egg(0, 1, minute, n, 0), above);
        Checks.due(19, text + ": egg(0, 1, " + minute + ", " + n + ", 1)", x.egg(0, 1, minute, n, 1), below);
    }

    /** Minutes of an egg go on behind 4319. */
    private static void eggBehindTheLastMinute() {
        String like = "going 0 0 0 240 240;going 1 0 0 240 240";
        eggDue(like, 4319, 60, 0, 1);
        eggDue(like, 4319, 1, 1, 13);
        eggDue("back 0 4319 0 120 120;going 1 4319 0 130 130", 4319, 4, 4, 145);
        eggDue("going 0 4319 0 130 130;back 1 4319 0 120 120", 4319, 4, 0, 1);
    }

    /** One begins at t itself, if the HAND stands at a whole minute then; a minute later it has gone by. */
    private static void eggAtTheFirstBeginning() {
        String quick = "going 0 0 0 130 130;going 1 0 0 120 120";
        eggDue(quick, 0, 4, 0, 1);
        eggDue(quick, 0, 60, 0, 1);
        eggDue(quick, 1, 4, 2, 145);
        eggDue(quick, 144, 4, 0, 1);
        eggDue(quick, 145, 4, 2, 145);
    }

    /** Of 60 beginnings the last: a minute of it is 144 / 145, so that each is a part nearer to a whole one. */
    private static void eggAtTheLastBeginning() {
        String quick = "going 0 0 0 130 130;going 1 0 0 120 120";
        // from 85 on they are the 86th .. 145th, and the last one is at 144; from 84 on a part short of a whole one
        eggDue(quick, 80, 30, 1, 29);
        eggDue(quick, 82, 30, 3, 145);
        eggDue(quick, 83, 30, 2, 145);
        eggDue(quick, 84, 30, 1, 145);
        eggDue(quick, 85, 30, 0, 1);
        eggDue(quick, 86, 30, 0, 1);
    }

    private static void eggInLowestTerms() {
        // minutes of 12 / 13, of 12 / 11, of both
        eggDue("going 0 0 0 240 240;going 1 0 0 240 240", 0, 1, 1, 13);
        eggDue("going 0 0 0 0 0;going 1 0 0 0 0", 0, 1, 1, 11);
        eggDue("going 0 0 0 0 0;going 1 0 0 0 0", 0, 12, 0, 1);
        eggDue("going 0 0 0 0 0;going 1 0 0 240 240", 0, 4, 4, 143);
        eggDue("going 0 0 0 0 0;going 1 0 0 0 0", 0, 5, 5, 11);
        eggDue("going 0 0 0 0 0;going 1 0 0 0 0", 0, 6, 6, 11);
    }

    private static void orderDue(String text, int greatest, int... clocks) {
        WrongClocks x = Checks.told(text);
        Checks.due(20, text + ": order(NONE)", x.order(NONE), greatest);
        for (int i = 0; i < clocks.length; i++) {
            Checks.due(20, text + ": order(" + i + ")", x.order(i), clocks[i]);
        }
        Checks.due(20, text + ": order(" + clocks.length + ")", x.order(clocks.length), NONE);
    }

    /** The greatest error can be behind the first day, the last, one between; without sign; several are as good. */
    private static void orderBehindEachDay() {
        orderDue("going 0 0 0 0 0", 120, 0);
        orderDue("going 0 0 0 240 240", 120, 0);
        orderDue("going 0 0 0 120 120", 0, 0);
        orderDue("going 7 0 0 121 121;going 0 0 0 119 119", 1, 0, 7);
        orderDue("going 0 0 0 0 0;going 1 0 0 0 0", 240, 0, 1);
        orderDue("going 0 0 0 130 130;going 1 0 0 115 115", 5, 1, 0);
        orderDue("going 0 0 0 130 130;going 1 0 0 115 115;going 2 0 0 115 115", 5, 1, 0, 2);
        orderDue("going 0 0 0 120 120;going 1 0 0 121 121;going 2 0 0 119 119", 1, 0, 1, 2);
    }
}
