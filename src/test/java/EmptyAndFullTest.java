/** What is empty and what is full: THE TEXT and its LINES, CLOCKS told, those READ, NOTES, what is kept. */
public final class EmptyAndFullTest {
    private static final int NONE = WrongClocks.NONE, UNKNOWN = WrongClocks.UNKNOWN;
    private static final int OUTSIDE = WrongClocks.OUTSIDE, NOT = WrongClocks.NOT, FULL = WrongClocks.FULL;

    // Clock k goes right and was SET at 0 to k.
    private static final String[] ALL_GOING = {
        "going 0 0 0 120 120;going 1 0 1 120 120;going 2 0 2 120 120;going 3 0 3 120 120",
        "going 4 0 4 120 120;going 5 0 5 120 120;going 6 0 6 120 120;going 7 0 7 120 120"};

    private EmptyAndFullTest() {
    }

    public static void main(String[] args) {
        constants();
        noneToldClocks();
        noneToldRest();
        emptyText();
        blankText();
        fullTextByOnes();
        fullTextByEights();
        fullTextOfLines();
        fullTextWithFaults();
        textIsEmptiedByHouse();
        oneLineAndEight();
        allTold();
        allToldAndGone();
        allToldIsNot();
        noneRead();
        allRead();
        allReadLie();
        allReadButOne();
        noNotes();
        mostNotes();
        lastNoteCounts();
        noteOfEachClock();
        nothingKept();
        keptEmpty();
        keptFull();
        Checks.end();
    }

    private static void constants() {
        Checks.due(0, "NONE", NONE, -1);
        Checks.due(0, "UNKNOWN", UNKNOWN, -2);
        Checks.due(0, "OUTSIDE", OUTSIDE, -3);
        Checks.due(0, "NOT", NOT, -4);
        Checks.due(0, "FULL", FULL, -5);
    }

    private static WrongClocks allGoing() {
        WrongClocks x = new WrongClocks();
        for (String text : ALL_GOING) {
            Checks.tell(x, text);
        }
        return x;
    }

    private static void noneToldClocks() {
        WrongClocks x = new WrongClocks();
        for (int k = 0; k < 8; k++) {
            for (int what = 0; what < 6; what++) {
                Checks.due(6, "clock(" + k + ", " + what + ") of none", x.clock(k, what), UNKNOWN);
            }
            Checks.due(7, "shows(" + k + ", 0, 0) of none", x.shows(k, 0, 0), UNKNOWN);
            Checks.due(8, "can(" + k + ", 0, 0) of none", x.can(k, 0, 0), UNKNOWN);
            Checks.due(13, "note(" + k + ", 0, 0) of none", x.note(k, 0, 0), UNKNOWN);
            Checks.due(15, "rates(" + k + ", 0) of none", x.rates(k, 0), UNKNOWN);
            int other = (k + 1) % 8;
            Checks.due(16, "again of " + k + " and " + other, x.again(1 << k | 1 << other, 0), OUTSIDE);
            Checks.due(17, "stopped(" + k + ", " + other + ", 0) of none", x.stopped(k, other, 0), UNKNOWN);
            Checks.due(18, "setBy(" + k + ", " + other + ", 0, 0) of none", x.setBy(k, other, 0, 0), UNKNOWN);
            Checks.due(19, "egg(" + k + ", " + other + ", 0, 1, 0) of none", x.egg(k, other, 0, 1, 0), UNKNOWN);
            Checks.faultDue(x, "now " + k + " 0", 4);
        }
    }

    private static void noneToldRest() {
        WrongClocks x = new WrongClocks();
        for (int what = 0; what < 4; what++) {
            Checks.due(23, "count(" + what + ") of none", x.count(what), 0);
        }
        noneReadDue(x);
        Checks.due(12, "next(0) of none", x.next(0), NONE);
        Checks.due(12, "next(1) of none", x.next(1), NONE);
        Checks.due(16, "again(255, 0) of none", x.again(255, 0), OUTSIDE);
        Checks.due(20, "order(NONE) of none", x.order(NONE), NOT);
        Checks.due(20, "order(0) of none", x.order(0), NOT);
        Checks.due(14, "burn() of none", x.burn(), 0);
        Checks.due(3, "erase() of nothing", x.erase(), 0);
        Checks.tell(x, "unread");
        Checks.tell(x, "gone 0;gone 7");
        Checks.due(23, "count(0) behind gone of none", x.count(0), 0);
    }

    private static void emptyText() {
        WrongClocks x = Checks.told("stopped 0 5");
        Checks.due(23, "count(3) of an empty text", x.count(3), 0);
        Checks.due(4, "fault() of an empty text", x.fault(), 0);
        Checks.due(5, "house() of an empty text", x.house(), NOT);
        Checks.due(3, "erase() of an empty text", x.erase(), 0);
        Checks.due(2, "write at an empty text", x.write(' ', 1), 1);
        Checks.due(3, "erase()", x.erase(), 1);
        Checks.due(4, "fault() of an erased text", x.fault(), 0);
        Checks.due(5, "house() of an erased text", x.house(), NOT);
        Checks.due(23, "what was told stays", x.count(0), 1);
    }

    private static void blankText() {
        for (int blanks : new int[] {1, 8, 199, 200}) {
            Checks.faultDue(new WrongClocks(), " ".repeat(blanks), blanks);
        }
        // the signs next to a blank are none
        Checks.faultDue(new WrongClocks(), (char) 31 + "unread", 0);
        Checks.faultDue(new WrongClocks(), "!unread", 0);
        Checks.faultDue(new WrongClocks(), "\nunread", 0);
        Checks.faultDue(new WrongClocks(), (char) 160 + "unread", 0);
    }

    private static void fullTextByOnes() {
        WrongClocks x = new WrongClocks();
        for (int i = 1; i <= 200; i++) {
            Checks.due(2, "write byte " + i, x.write(i > 194 ? "unread".charAt(i - 195) : ' ', 1), i);
        }
        for (int n = 1; n <= 8; n++) {
            Checks.due(2, "write " + n + " at a full text", x.write(0x3b3b3b3b3b3b3b3bL, n), FULL);
        }
        Checks.due(23, "count(3) of a full text", x.count(3), 200);
        Checks.due(4, "fault() of a full text", x.fault(), NONE);
        Checks.due(5, "house() of a full text", x.house(), 1);
        Checks.due(23, "count(3) behind house()", x.count(3), 0);
    }

    private static void fullTextByEights() {
        for (int n = 1; n <= 8; n++) {
            WrongClocks x = Checks.told("unread");
            Checks.write(x, " ".repeat(201 - n));
            Checks.due(2, "write " + n + " that come to 201", x.write(0x2020202020202020L, n), FULL);
            Checks.due(2, "none of them is written", x.count(3), 201 - n);
            if (n > 1) {
                Checks.due(2, "write " + (n - 1) + " that come to 200", x.write(0x2020202020202020L, n - 1), 200);
            }
            Checks.due(3, "erase() of a full text", x.erase(), 200);
            Checks.due(2, "write behind erase()", x.write(0x2020202020202020L, 8), 8);
        }
    }

    private static void fullTextOfLines() {
        // eight of the longest LINES, 25 bytes each with its ; : the last one has a blank behind it
        StringBuilder text = new StringBuilder();
        for (int k = 0; k < 8; k++) {
            text.append("going ").append(k).append(" 4319 719 120 240").append(k < 7 ? ";" : " ");
        }
        WrongClocks x = new WrongClocks();
        Checks.due(2, "eight long lines", Checks.write(x, text.toString()), 200);
        Checks.due(4, "fault() of eight long lines", x.fault(), NONE);
        Checks.due(5, "house() of eight long lines", x.house(), 8);
        Checks.due(23, "count(0)", x.count(0), 255);
        for (int k = 0; k < 8; k++) {
            Checks.due(6, "clock(" + k + ", 4)", x.clock(k, 4), 240);
        }
    }

    private static void fullTextWithFaults() {
        Checks.faultDue(new WrongClocks(), " ".repeat(193) + "going 7", 200);
        Checks.faultDue(new WrongClocks(), " ".repeat(193) + "unread;", 200);
        Checks.faultDue(new WrongClocks(), " ".repeat(193) + "unread,", 199);
        Checks.faultDue(new WrongClocks(), "unread" + " ".repeat(193) + "u", 199);
        Checks.faultDue(new WrongClocks(), "a".repeat(200), 0);
        Checks.faultDue(new WrongClocks(), "1".repeat(200), 0);
        Checks.faultDue(new WrongClocks(), "gone " + "0".repeat(195), 5);
        Checks.faultDue(new WrongClocks(), ";".repeat(200), 0);
        // behind a longer text nothing of it is read
        WrongClocks x = new WrongClocks();
        Checks.write(x, "unread;gone 7;stopped 3 5;gone 3");
        x.erase();
        Checks.faultDue(x, "unread", NONE);
        Checks.faultDue(x, "unread;", 7);
        Checks.faultDue(x, "unread;gone", 11);
        Checks.faultDue(x, "unread;gone ", 12);
    }

    private static void textIsEmptiedByHouse() {
        WrongClocks x = new WrongClocks();
        Checks.tell(x, "stopped 3 5");
        Checks.due(23, "count(3) behind house()", x.count(3), 0);
        Checks.due(5, "house() again", x.house(), NOT);
        Checks.due(3, "erase() behind house()", x.erase(), 0);
        Checks.due(2, "write behind house()", x.write(0x6e7520L, 3), 3);
        Checks.due(5, "house() of a part", x.house(), NOT);
        Checks.due(23, "the part stays", x.count(3), 3);
        Checks.due(2, "write the other part", x.write(0x64616572L, 4), 7);
        Checks.due(5, "house() of both parts", x.house(), 1);
    }

    private static void oneLineAndEight() {
        String[] lines = {"stopped 0 1", "back 1 0 0 0 0", "gone 0", "going 2 0 0 0 0", "now 2 5", "unread", "now 1 6", "gone 3"};
        StringBuilder text = new StringBuilder();
        for (int many = 1; many <= 8; many++) {
            text.append(many == 1 ? "" : ";").append(lines[many - 1]);
            WrongClocks x = new WrongClocks();
            Checks.write(x, text.toString());
            Checks.due(4, "fault() of " + many + " lines", x.fault(), NONE);
            Checks.due(5, "house() of " + many + " lines", x.house(), many);
            Checks.due(23, "told by " + many + " lines", x.count(0), new int[] {1, 3, 2, 6, 6, 6, 6, 6}[many - 1]);
            Checks.due(23, "READ by " + many + " lines", x.count(1), new int[] {0, 0, 0, 0, 4, 0, 2, 2}[many - 1]);
        }
        Checks.faultDue(new WrongClocks(), text + ";", text.length());
        Checks.faultDue(new WrongClocks(), text + " ; gone 1", text.length() + 1);
    }

    private static void allTold() {
        WrongClocks x = allGoing();
        Checks.due(23, "count(0) of all", x.count(0), 255);
        for (int k = 0; k < 8; k++) {
            Checks.due(6, "clock(" + k + ", 2)", x.clock(k, 2), k);
            Checks.due(7, "shows(" + k + ", 700, 0)", x.shows(k, 700, 0), 700 + k);
            Checks.due(8, "can(" + k + ", 700, " + (700 + k) + ")", x.can(k, 700, 700 + k), 1);
        }
        Checks.due(12, "next(0) of all", x.next(0), 0);
        Checks.due(12, "next(1) of all", x.next(1), 6);
        Checks.due(16, "again(255, 9) of all, never alike", x.again(255, 9), NONE);
        Checks.due(21, "keep(0) of all", x.keep(0), 8);
        Checks.due(22, "back(0) of all", x.back(0), 8);
        Checks.due(23, "count(0) behind back", x.count(0), 255);
        // told anew: there are no more of them
        Checks.tell(x, "stopped 7 5;back 0 0 0 0 0");
        Checks.due(23, "count(0) of all told anew", x.count(0), 255);
        Checks.due(21, "keep(1) of all told anew", x.keep(1), 8);
    }

    private static void allToldAndGone() {
        WrongClocks x = allGoing();
        Checks.tell(x, "now 0 1;now 7 1");
        for (int k = 0; k < 8; k++) {
            Checks.tell(x, "gone " + k);
            Checks.due(6, "clock(" + k + ", 0) that is gone", x.clock(k, 0), UNKNOWN);
            Checks.due(23, "count(0) without 0 .. " + k, x.count(0), 255 & 254 << k);
            Checks.due(23, "count(1) without 0 .. " + k, x.count(1), k < 7 ? 128 : 0);
        }
        noneReadDue(x);
        Checks.due(21, "keep(0) of none any more", x.keep(0), 0);
        Checks.tell(x, "gone 0");
        Checks.due(23, "count(0) with one gone again", x.count(0), 0);
    }

    private static void allToldIsNot() {
        WrongClocks x = allGoing();
        Checks.due(20, "order(NONE) of eight", x.order(NONE), NOT);
        Checks.tell(x, "stopped 3 0");
        Checks.due(20, "order(NONE) of seven", x.order(NONE), NOT);
        Checks.tell(x, "back 3 0 0 120 120");
        Checks.due(20, "order(0) of seven", x.order(0), NOT);
        Checks.tell(x, "going 5 0 0 120 121");
        Checks.due(20, "order(NONE) of six", x.order(NONE), 0);
        int[] wants = {0, 1, 2, 4, 6, 7, NONE};
        for (int i = 0; i < wants.length; i++) {
            Checks.due(20, "order(" + i + ") of six", x.order(i), wants[i]);
        }
        Checks.tell(x, "going 5 0 0 121 121");
        Checks.due(20, "order(NONE) of seven", x.order(NONE), NOT);
    }

    private static void noneReadDue(WrongClocks x) {
        Checks.due(23, "count(1), none READ", x.count(1), 0);
        Checks.due(9, "fits(0), none READ", x.fits(0), 0);
        Checks.due(9, "fits(4319), none READ", x.fits(4319), 0);
        int[] times = {4320, 0, 4319, 1};
        for (int what = 0; what < 4; what++) {
            Checks.due(10, "times(" + what + "), none READ", x.times(what), times[what]);
        }
        for (int what = 0; what < 3; what++) {
            Checks.due(11, "liars(" + what + "), none READ", x.liars(what), 0);
        }
    }

    private static void noneRead() {
        WrongClocks x = allGoing();
        noneReadDue(x);
        Checks.tell(x, "now 0 5;now 7 6;unread");
        noneReadDue(x);
        Checks.tell(x, "unread;unread");
        noneReadDue(x);
        for (int k = 0; k < 8; k++) {
            Checks.due(6, "clock(" + k + ", 5)", x.clock(k, 5), NONE);
        }
        Checks.tell(x, "now 3 5;gone 3");
        noneReadDue(x);
        Checks.tell(x, "now 2 5;stopped 2 5");
        noneReadDue(x);
    }

    private static void readAll(WrongClocks x, int apart) {
        StringBuilder text = new StringBuilder();
        for (int k = 0; k < 8; k++) {
            text.append(k == 0 ? "" : ";").append("now ").append(k).append(' ').append(100 + apart * k);
        }
        Checks.tell(x, text.toString());
    }

    private static void allRead() {
        WrongClocks x = allGoing();
        readAll(x, 1);
        Checks.due(23, "count(1), all READ", x.count(1), 255);
        Checks.due(9, "fits(100), all READ", x.fits(100), 255);
        Checks.due(9, "fits(101), all READ", x.fits(101), 0);
        int[] times = {6, 100, 3700, 6};
        for (int what = 0; what < 4; what++) {
            Checks.due(10, "times(" + what + "), all READ", x.times(what), times[what]);
        }
        int[] liars = {0, 0, 100};
        for (int what = 0; what < 3; what++) {
            Checks.due(11, "liars(" + what + "), all READ", x.liars(what), liars[what]);
        }
        Checks.due(12, "next(0), all READ", x.next(0), NONE);
        Checks.due(12, "next(1), all READ", x.next(1), NONE);
        Checks.tell(x, "unread");
        noneReadDue(x);
    }

    /** Each one is right by itself at another minute: seven lie, and the least set leaves the last one. */
    private static void allReadLie() {
        WrongClocks x = allGoing();
        readAll(x, 0);
        Checks.due(9, "fits(93): 7 alone", x.fits(93), 128);
        Checks.due(9, "fits(100): 0 alone", x.fits(100), 1);
        Checks.due(10, "times(0), all lie", x.times(0), 0);
        Checks.due(10, "times(1), all lie", x.times(1), NONE);
        Checks.due(10, "times(2), all lie", x.times(2), NONE);
        Checks.due(10, "times(3), all lie", x.times(3), 0);
        Checks.due(11, "liars(0), seven lie", x.liars(0), 7);
        Checks.due(11, "liars(1), seven lie", x.liars(1), 127);
        Checks.due(11, "liars(2), seven lie", x.liars(2), 93);
        Checks.tell(x, "stopped 0 0;stopped 1 0;stopped 2 0;stopped 3 0;stopped 4 0;stopped 5 0;stopped 6 0;stopped 7 0");
        readAll(x, 0);
        Checks.due(9, "fits(0), eight lie", x.fits(0), 0);
        Checks.due(11, "liars(0), eight lie", x.liars(0), 8);
        Checks.due(11, "liars(1), eight lie", x.liars(1), 255);
        Checks.due(11, "liars(2), eight lie", x.liars(2), 0);
    }

    private static void allReadButOne() {
        WrongClocks x = allGoing();
        for (int k = 0; k < 8; k++) {
            readAll(x, 1);
            Checks.tell(x, "going " + k + " 0 9 120 120");
            Checks.due(23, "count(1), all READ but " + k, x.count(1), 255 - (1 << k));
            Checks.due(12, "next(0), all READ but " + k, x.next(0), k);
            Checks.due(12, "next(1), all READ but " + k, x.next(1), 6);
            Checks.due(9, "fits(100), all READ but " + k, x.fits(100), 255 - (1 << k));
            Checks.tell(x, "going " + k + " 0 " + k + " 120 120");
        }
    }

    private static void ratesDue(WrongClocks x, int k, int... wants) {
        for (int what = 0; what < 3; what++) {
            Checks.due(15, "rates(" + k + ", " + what + ")", x.rates(k, what), wants[what]);
        }
    }

    private static void noNotes() {
        WrongClocks x = Checks.told("going 0 5 5 0 0;back 1 6 6 240 240;stopped 2 7");
        for (int k = 0; k < 3; k++) {
            ratesDue(x, k, 241, 0, 240);
        }
        // those of another one are none of its own
        x.note(0, 0, 0);
        x.note(0, 0, 1);
        ratesDue(x, 0, 0, NONE, NONE);
        ratesDue(x, 1, 241, 0, 240);
        ratesDue(x, 2, 241, 0, 240);
        Checks.due(14, "burn()", x.burn(), 2);
        ratesDue(x, 0, 241, 0, 240);
        Checks.due(14, "burn() of none", x.burn(), 0);
    }

    private static void mostNotes() {
        WrongClocks x = Checks.told("going 0 0 0 120 120");
        for (int round = 0; round < 2; round++) {
            for (int i = 1; i <= 12; i++) {
                Checks.due(13, "note " + i, x.note(0, 0, 0), i);
            }
            Checks.due(13, "note 13", x.note(0, 0, 0), FULL);
            Checks.due(13, "note 13 once more", x.note(0, 0, 0), FULL);
            Checks.due(23, "count(2)", x.count(2), 12);
            ratesDue(x, 0, 241, 0, 240);
            Checks.due(14, "burn() of the most", x.burn(), 12);
            Checks.due(23, "count(2)", x.count(2), 0);
        }
    }

    /** The twelfth alone, and the first alone, say which rate it is; a thirteenth does not count. */
    private static void lastNoteCounts() {
        for (int odd = 0; odd < 12; odd++) {
            WrongClocks x = Checks.told("going 0 0 0 120 120");
            for (int i = 0; i < 12; i++) {
                x.note(0, i == odd ? 1440 : 0, i == odd ? 5 : 0);
            }
            ratesDue(x, 0, 1, 125, 125);
            Checks.due(13, "note 13", x.note(0, 1440, 9), FULL);
            ratesDue(x, 0, 1, 125, 125);
        }
    }

    private static void noteOfEachClock() {
        WrongClocks x = allGoing();
        for (int k = 0; k < 6; k++) {
            Checks.due(13, "a first note of " + k, x.note(k + 2, 0, 0), 2 * k + 1);
            Checks.due(13, "a second note of " + k, x.note(k + 2, 1440, k), 2 * k + 2);
        }
        Checks.due(13, "a note more of another one", x.note(0, 0, 0), FULL);
        for (int k = 0; k < 6; k++) {
            ratesDue(x, k + 2, 1, 120 + k, 120 + k);
        }
        ratesDue(x, 0, 241, 0, 240);
        ratesDue(x, 1, 241, 0, 240);
    }

    private static void nothingKept() {
        WrongClocks x = Checks.told("stopped 0 5");
        Checks.due(22, "back(0), nothing kept", x.back(0), NOT);
        Checks.due(22, "back(1), nothing kept", x.back(1), NOT);
        Checks.due(21, "keep(1)", x.keep(1), 1);
        Checks.due(22, "back(0), nothing kept there", x.back(0), NOT);
        Checks.due(22, "back(1)", x.back(1), 1);
        Checks.due(22, "back(1) a second time", x.back(1), 1);
        WrongClocks y = Checks.told("stopped 0 5");
        y.keep(0);
        Checks.due(22, "back(1), nothing kept there", y.back(1), NOT);
    }

    private static void keptEmpty() {
        WrongClocks x = new WrongClocks();
        Checks.due(21, "keep(0) of none", x.keep(0), 0);
        Checks.tell(x, "stopped 0 5;going 7 0 0 0 0;now 7 1");
        x.note(0, 0, 0);
        Checks.due(22, "back(0) to none", x.back(0), 0);
        for (int what = 0; what < 4; what++) {
            Checks.due(22, "count(" + what + ") behind back", x.count(what), 0);
        }
        noneReadDue(x);
    }

    private static void keptFull() {
        WrongClocks x = allGoing();
        readAll(x, 1);
        for (int i = 0; i < 12; i++) {
            x.note(7, i == 11 ? 1440 : 0, i == 11 ? 5 : 0);
        }
        Checks.due(21, "keep(1) of all", x.keep(1), 8);
        Checks.tell(x, "gone 0;gone 1;gone 2;gone 3;gone 4;gone 5;gone 6;gone 7");
        x.burn();
        Checks.due(22, "back(1) to all", x.back(1), 8);
        Checks.due(23, "count(0)", x.count(0), 255);
        Checks.due(23, "count(1)", x.count(1), 255);
        Checks.due(23, "count(2)", x.count(2), 12);
        Checks.due(10, "times(0)", x.times(0), 6);
        for (int k = 0; k < 8; k++) {
            Checks.due(6, "clock(" + k + ", 2)", x.clock(k, 2), k);
            Checks.due(6, "clock(" + k + ", 5)", x.clock(k, 5), 100 + k);
        }
        ratesDue(x, 7, 1, 125, 125);
        Checks.due(13, "a note behind back", x.note(0, 0, 0), FULL);
    }
}
