/** Promises 13 to 15: notes, and the rates that they leave. */
public final class NotesTest {
    private static final int NONE = WrongClocks.NONE, UNKNOWN = WrongClocks.UNKNOWN;
    private static final int OUTSIDE = WrongClocks.OUTSIDE, FULL = WrongClocks.FULL;

    private NotesTest() {
    }

    public static void main(String[] args) {
        notes();
        burn();
        ratesOfGoing();
        ratesOfBack();
        ratesOfStopped();
        ratesApart();
        ratesByNotesAlone();
        notesStay();
        Checks.end();
    }

    private static void notes() {
        WrongClocks x = Checks.told("going 0 0 0 0 0;stopped 7 5");
        for (int bad : new int[] {-1, 4320, Integer.MAX_VALUE, Integer.MIN_VALUE}) {
            Checks.due(13, "note(0, " + bad + ", 0)", x.note(0, bad, 0), OUTSIDE);
            Checks.due(13, "note(0, 0, " + bad + ")", x.note(0, 0, bad), OUTSIDE);
            Checks.due(13, "note(1, " + bad + ", 0)", x.note(1, bad, 0), UNKNOWN);
        }
        Checks.due(13, "note(0, 0, 720)", x.note(0, 0, 720), OUTSIDE);
        Checks.due(13, "count(2)", x.count(2), 0);
        for (int i = 1; i <= 12; i++) {
            Checks.due(13, "note " + i, x.note(i % 2 * 7, 4319, 719), i);
        }
        Checks.due(13, "a thirteenth note", x.note(0, 0, 0), FULL);
        Checks.due(13, "a thirteenth note OUTSIDE", x.note(0, 0, 720), OUTSIDE);
        Checks.due(13, "a thirteenth note UNKNOWN", x.note(3, 0, 720), UNKNOWN);
        Checks.due(13, "count(2)", x.count(2), 12);
    }

    private static void burn() {
        WrongClocks x = Checks.told("going 0 0 0 0 0");
        Checks.due(14, "burn()", x.burn(), 0);
        x.note(0, 0, 0);
        x.note(0, 1440, 5);
        Checks.due(14, "burn()", x.burn(), 2);
        Checks.due(14, "count(2)", x.count(2), 0);
        ratesDue(x, 0, 241, 0, 240);
        Checks.due(14, "burn()", x.burn(), 0);
        Checks.due(14, "a note behind it", x.note(0, 0, 0), 1);
    }

    private static void ratesOfGoing() {
        WrongClocks x = Checks.told("going 0 77 88 3 4");
        ratesDue(x, 0, 241, 0, 240);
        x.note(0, 2000, 700);
        ratesDue(x, 0, 241, 0, 240);
        x.burn();
        // behind half a day half of the rate: -1, 0, 1 leave it within one minute
        x.note(0, 0, 0);
        x.note(0, 720, 0);
        ratesDue(x, 0, 3, 119, 121);
        x.note(0, 1440, 1);
        ratesDue(x, 0, 1, 121, 121);
        x.note(0, 1440, 2);
        ratesDue(x, 0, 0, NONE, NONE);
        x.burn();
        x.note(0, 1440, 120);
        x.note(0, 0, 0);
        ratesDue(x, 0, 1, 240, 240);
        x.burn();
        x.note(0, 1440, 600);
        x.note(0, 0, 0);
        ratesDue(x, 0, 1, 0, 0);
        x.burn();
        x.note(0, 1440, 121);
        x.note(0, 0, 0);
        ratesDue(x, 0, 0, NONE, NONE);
        // behind 617 MINUTES by 7 a day it is one part short of three minutes ahead: one HAND alone does it
        for (int order = 0; order < 2; order++) {
            x.burn();
            x.note(0, order == 0 ? 0 : 617, order == 0 ? 0 : 619);
            x.note(0, order == 0 ? 617 : 0, order == 0 ? 619 : 0);
            ratesDue(x, 0, 5, 123, 127);
        }
        // over the end of the twelve hours
        x.burn();
        x.note(0, 10, 719);
        x.note(0, 11, 0);
        ratesDue(x, 0, 241, 0, 240);
        x.note(0, 12, 1);
        ratesDue(x, 0, 241, 0, 240);
        x.note(0, 11, 719);
        ratesDue(x, 0, 0, NONE, NONE);
    }

    private static void ratesOfBack() {
        WrongClocks x = Checks.told("back 1 77 88 3 4");
        x.note(1, 0, 0);
        x.note(1, 1440, 715);
        ratesDue(x, 1, 1, 125, 125);
        x.burn();
        x.note(1, 1440, 0);
        x.note(1, 0, 120);
        ratesDue(x, 1, 1, 240, 240);
        x.burn();
        x.note(1, 0, 10);
        x.note(1, 10, 0);
        ratesDue(x, 1, 241, 0, 240);
    }

    private static void ratesOfStopped() {
        WrongClocks x = Checks.told("stopped 2 5");
        x.note(2, 5, 6);
        x.note(2, 4000, 6);
        ratesDue(x, 2, 241, 0, 240);
        x.note(2, 4001, 7);
        ratesDue(x, 2, 0, NONE, NONE);
    }

    private static void ratesApart() {
        WrongClocks x = Checks.told("going 0 0 0 0 0");
        x.note(0, 0, 0);
        // in 4319 MINUTES the least and the greatest are 719.83 apart
        x.note(0, 4319, 359);
        ratesDue(x, 0, 2, 0, 240);
        for (int bad : new int[] {-1, 3, Integer.MAX_VALUE, Integer.MIN_VALUE}) {
            Checks.due(15, "rates(0, " + bad + ")", x.rates(0, bad), OUTSIDE);
            Checks.due(15, "rates(1, " + bad + ")", x.rates(1, bad), UNKNOWN);
        }
        Checks.due(15, "rates(8, 0)", x.rates(8, 0), UNKNOWN);
        Checks.due(15, "rates(-1, 0)", x.rates(-1, 0), UNKNOWN);
    }

    private static void ratesByNotesAlone() {
        WrongClocks x = Checks.told("going 0 4000 5 9 11;going 1 0 0 120 120;now 0 300");
        x.note(0, 0, 0);
        x.note(1, 0, 1);
        x.note(0, 1440, 5);
        x.note(1, 1440, 8);
        ratesDue(x, 0, 1, 125, 125);
        ratesDue(x, 1, 1, 127, 127);
    }

    private static void notesStay() {
        WrongClocks x = Checks.told("going 0 0 0 0 0;stopped 1 5");
        x.note(0, 0, 0);
        x.note(0, 1440, 5);
        Checks.tell(x, "gone 0;unread");
        Checks.due(15, "rates of one that is gone", x.rates(0, 0), UNKNOWN);
        Checks.due(13, "its notes stay", x.count(2), 2);
        Checks.tell(x, "back 0 0 0 0 0");
        ratesDue(x, 0, 1, 115, 115);
        Checks.tell(x, "stopped 0 0");
        ratesDue(x, 0, 0, NONE, NONE);
    }

    private static void ratesDue(WrongClocks x, int k, int... wants) {
        for (int what = 0; what < 3; what++) {
            Checks.due(15, "rates(" + k + ", " + what + ")", x.rates(k, what), wants[what]);
        }
    }
}
