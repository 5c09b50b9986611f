/** Promises 1 to 6 and 23: a new object, the text, its fault, its lines done, what is told of a clock, counts. */
public final class ToldTest {
    private static final int NONE = WrongClocks.NONE, UNKNOWN = WrongClocks.UNKNOWN;
    private static final int OUTSIDE = WrongClocks.OUTSIDE, NOT = WrongClocks.NOT, FULL = WrongClocks.FULL;

    private ToldTest() {
    }

    public static void main(String[] args) {
        newObject();
        writes();
        fullText();
        erases();
        faultsOfWords();
        faultsOfNumbers();
        faultsOfTold();
        faultsOfLines();
        wordsByALetter();
        faultsAtEachToken();
        firstOfTwoFaults();
        blanksAnywhere();
        signsNextToOthers();
        unreadTellsNone();
        houses();
        linesInOrder();
        clocks();
        counts();
        Checks.end();
    }

    private static void newObject() {
        WrongClocks x = new WrongClocks();
        for (int k = 0; k < 8; k++) {
            Checks.due(1, "clock(" + k + ", 0)", x.clock(k, 0), UNKNOWN);
        }
        for (int what = 0; what < 4; what++) {
            Checks.due(1, "count(" + what + ")", x.count(what), 0);
        }
        Checks.due(1, "times(0)", x.times(0), 4320);
        Checks.due(1, "back(0)", x.back(0), NOT);
        Checks.due(1, "order(NONE)", x.order(NONE), NOT);
        Checks.due(1, "fault()", x.fault(), 0);
    }

    private static void writes() {
        WrongClocks x = new WrongClocks();
        for (int n : new int[] {0, 9, -1, Integer.MAX_VALUE, Integer.MIN_VALUE}) {
            Checks.due(2, "write(.., " + n + ")", x.write(0x7761656e75L, n), OUTSIDE);
        }
        // "unread", the lowest byte first; what stands above n bytes does not matter
        Checks.due(2, "write un", x.write(0x7a7a7a7a6e75L, 2), 2);
        Checks.due(2, "write r", x.write(0xff72L, 1), 3);
        Checks.due(2, "write ead", x.write(0x00646165L, 3), 6);
        Checks.due(2, "fault() of unread", x.fault(), NONE);
        Checks.due(2, "house() of unread", x.house(), 1);
        // bytes of 128 and more are no letters; a long below 0 has 8 bytes as any other
        Checks.due(2, "write(-1, 8)", x.write(-1L, 8), 8);
        Checks.due(2, "fault() of bytes 255", x.fault(), 0);
        x.erase();
        Checks.due(2, "write 8 blanks", x.write(0x2020202020202020L, 8), 8);
        Checks.due(2, "write byte 8 from above", x.write(0x8020202020202020L, 8), 16);
        Checks.due(2, "fault() at the last byte", x.fault(), 15);
    }

    private static void fullText() {
        WrongClocks x = new WrongClocks();
        for (int i = 1; i <= 24; i++) {
            Checks.due(2, "write 8 blanks", x.write(0x2020202020202020L, 8), 8 * i);
        }
        Checks.due(2, "write 3 blanks", x.write(0x202020L, 3), 195);
        Checks.due(2, "write 6 at 195", x.write(0x646165726e75L, 6), FULL);
        Checks.due(2, "count(3)", x.count(3), 195);
        Checks.due(2, "write 5 at 195", x.write(0x7265726e75L, 5), 200);
        Checks.due(2, "write 1 at 200", x.write(' ', 1), FULL);
        Checks.due(2, "write 9 at 200", x.write(' ', 9), OUTSIDE);
        Checks.due(4, "fault() of a full text", x.fault(), 195);
        Checks.due(5, "house() of a full text", x.house(), NOT);
        Checks.due(3, "erase() of a full text", x.erase(), 200);
        Checks.write(x, " ".repeat(194) + "unread");
        Checks.due(5, "house() of a full text without fault", x.house(), 1);
        Checks.write(x, "unread" + " ".repeat(194));
        Checks.due(4, "fault() with blanks up to the last byte", x.fault(), NONE);
    }

    private static void erases() {
        WrongClocks x = new WrongClocks();
        Checks.due(3, "erase() of nothing", x.erase(), 0);
        Checks.write(x, "going 0");
        Checks.due(3, "erase()", x.erase(), 7);
        Checks.due(3, "erase() again", x.erase(), 0);
        Checks.write(x, "unread");
        Checks.due(3, "nothing is left of what was erased", x.fault(), NONE);
    }

    private static void faultsOfWords() {
        WrongClocks x = new WrongClocks();
        Checks.faultDue(x, "", 0);
        Checks.faultDue(x, "   ", 3);
        Checks.faultDue(x, "unread", NONE);
        Checks.faultDue(x, "  unread  ", NONE);
        Checks.faultDue(x, " unrea", 1);
        Checks.faultDue(x, "unreads", 0);
        Checks.faultDue(x, "un read", 0);
        Checks.faultDue(x, "Unread", 0);
        Checks.faultDue(x, "unreaD", 0);
        Checks.faultDue(x, "unread.", 6);
        Checks.faultDue(x, "unread\t", 6);
        Checks.faultDue(x, "unread\0", 6);
        Checks.faultDue(x, "unread unread", 7);
        Checks.faultDue(x, "unread 0", 7);
        Checks.faultDue(x, "unreadz", 0);
        Checks.faultDue(x, "aunread", 0);
        Checks.faultDue(x, "onread", 0);
        Checks.faultDue(x, "boing 0 1 2 3 4", 0);
        Checks.faultDue(x, "pack 0 1 2 3 4", 0);
        Checks.faultDue(x, "atopped 0 1", 0);
        Checks.faultDue(x, "hone 0", 0);
        Checks.faultDue(x, "how 0 1", 0);
        Checks.faultDue(x, "gond 0", 0);
        Checks.faultDue(x, "go", 0);
        Checks.faultDue(x, "goingback 0", 0);
        Checks.faultDue(x, "7", 0);
        Checks.faultDue(x, "going0 1 2 3 4", NONE);
        Checks.faultDue(x, "going 0 1 2 3 4back", 15);
        Checks.faultDue(x, "going a", 6);
        Checks.faultDue(x, "going 0 1 2 3 4.", 15);
        Checks.faultDue(x, "going-1", 5);
        Checks.faultDue(x, "going 0 `", 8);
        Checks.faultDue(x, "going 0 {", 8);
    }

    private static void faultsOfNumbers() {
        WrongClocks x = new WrongClocks();
        for (String word : new String[] {"going", "back"}) {
            int at = word.length() + 1;
            Checks.faultDue(x, word + " 7 4319 719 240 240", NONE);
            Checks.faultDue(x, word + " 0007 0000 0000 0000 0240", NONE);
            Checks.faultDue(x, word + " 8 4319 719 240 240", at);
            Checks.faultDue(x, word + " 7 4320 719 240 240", at + 2);
            Checks.faultDue(x, word + " 7 4319 720 240 240", at + 7);
            Checks.faultDue(x, word + " 7 4319 719 241 241", at + 11);
            Checks.faultDue(x, word + " 7 4319 719 240 239", at + 15);
            Checks.faultDue(x, word + " 7 4319 719 0 241", at + 13);
            Checks.faultDue(x, word + " 7 4319 719 240", at + 14);
            Checks.faultDue(x, word + " 7 4319 719 240 ;", at + 15);
            Checks.faultDue(x, word + " 7 4319 719 240 240 1", at + 19);
            Checks.faultDue(x, word + " 00000 4319 719 240 240", at);
            Checks.faultDue(x, word + " 7 04319 719 240 240", at + 2);
            Checks.faultDue(x, word + " 7 99999999999999999999", at + 2);
        }
        Checks.faultDue(x, "stopped 7 719", NONE);
        Checks.faultDue(x, "stopped 7 720", 10);
        Checks.faultDue(x, "stopped 8 720", 8);
        Checks.faultDue(x, "stopped 7", 9);
        Checks.faultDue(x, "stopped 7 00719", 10);
        Checks.faultDue(x, "stopped 7 719 0", 14);
        Checks.faultDue(x, "gone 7", NONE);
        Checks.faultDue(x, "gone 8", 5);
        Checks.faultDue(x, "gone", 4);
        Checks.faultDue(x, "gone 4294967296", 5);
        Checks.faultDue(x, "gone 7 7", 7);
    }

    private static void faultsOfTold() {
        WrongClocks x = Checks.told("stopped 3 5");
        Checks.faultDue(x, "now 3 719", NONE);
        Checks.faultDue(x, "now 3 720", 6);
        Checks.faultDue(x, "now 2 5", 4);
        Checks.faultDue(x, "now 2", 4);
        Checks.faultDue(x, "now 8 5", 4);
        Checks.faultDue(x, "now 3", 5);
        Checks.faultDue(x, "gone 3;now 3 5", 11);
        Checks.faultDue(x, "gone 2;now 3 5", NONE);
        Checks.faultDue(x, "gone 3;stopped 3 6;now 3 5", NONE);
        Checks.faultDue(x, "going 2 0 0 0 0;now 2 5", NONE);
        Checks.faultDue(x, "back 2 0 0 0 0;now 2 5", NONE);
        Checks.faultDue(x, "now 2 5;going 2 0 0 0 0", 4);
        Checks.faultDue(x, "unread;now 3 5", NONE);
        Checks.due(4, "looking for faults tells nothing", x.count(0), 8);
        // what is told is what is told now, not when the text was written
        Checks.due(21, "keep(0)", x.keep(0), 1);
        Checks.tell(x, "gone 3");
        Checks.write(x, "now 3 5");
        Checks.due(4, "fault() without the clock", x.fault(), 4);
        x.back(0);
        Checks.due(4, "fault() with the clock", x.fault(), NONE);
    }

    private static void faultsOfLines() {
        WrongClocks x = new WrongClocks();
        Checks.faultDue(x, ";", 0);
        Checks.faultDue(x, ";unread", 0);
        Checks.faultDue(x, "unread;", 7);
        Checks.faultDue(x, "unread; ", 8);
        Checks.faultDue(x, "unread;;unread", 7);
        Checks.faultDue(x, "unread ; unread", NONE);
        Checks.faultDue(x, "unread,unread", 6);
        String eight = "unread;unread;unread;unread;unread;unread;unread;unread";
        Checks.faultDue(x, eight, NONE);
        Checks.faultDue(x, eight + " ", NONE);
        Checks.faultDue(x, eight + ";", 55);
        Checks.faultDue(x, eight + " ;unread", 56);
        Checks.faultDue(x, eight + " unread", 56);
        Checks.faultDue(x, "unread;gone 9;gone 8", 12);
    }

    /** A LINE of each word, with its TOKENS apart; 7 is told ahead of it. */
    private static final String[] LINES = {
        "going 7 4319 719 240 240", "back 7 4319 719 240 240", "stopped 7 719", "gone 7", "now 7 719", "unread"};

    private static void faultDueBehindTold(String text, int want) {
        Checks.faultDue(Checks.told("stopped 7 5"), text, want);
    }

    private static void wordsByALetter() {
        for (String line : LINES) {
            String word = line.split(" ")[0];
            String numbers = line.substring(word.length());
            faultDueBehindTold(line, NONE);
            faultDueBehindTold(word.substring(1) + numbers, 0);
            faultDueBehindTold(word.substring(0, word.length() - 1) + numbers, 0);
            faultDueBehindTold(word + "s" + numbers, 0);
            faultDueBehindTold("a" + word + numbers, 0);
            faultDueBehindTold(word + word + numbers, 0);
            faultDueBehindTold(word.toUpperCase() + numbers, 0);
            faultDueBehindTold(word.substring(0, 1) + " " + word.substring(1) + numbers, 0);
        }
    }

    /** Behind each TOKEN of a LINE it comes too soon, and no other kind of TOKEN can stand there. */
    private static void faultsAtEachToken() {
        for (String line : LINES) {
            for (int end = line.indexOf(' '); end >= 0; end = line.indexOf(' ', end + 1)) {
                String ahead = line.substring(0, end);
                faultDueBehindTold(ahead, end);
                faultDueBehindTold(ahead + "  ", end + 2);
                faultDueBehindTold(ahead + ";", end);
                faultDueBehindTold(ahead + " ;unread", end + 1);
                faultDueBehindTold(ahead + " unread", end + 1);
                faultDueBehindTold(ahead + " x" + line.substring(end + 1), end + 1);
                faultDueBehindTold(ahead + "." + line.substring(end), end);
                faultDueBehindTold(ahead + " 9999" + line.substring(end), end + 1);
                faultDueBehindTold(ahead + " 00000" + line.substring(end), end + 1);
            }
            faultDueBehindTold(line + " 0", line.length() + 1);
            faultDueBehindTold(line + " unread", line.length() + 1);
            faultDueBehindTold(line + "-", line.length());
            faultDueBehindTold(line + ";", line.length() + 1);
            faultDueBehindTold(line + ";0", line.length() + 1);
            faultDueBehindTold(line + ";;", line.length() + 1);
        }
        faultDueBehindTold("gone 7a", 6);
        faultDueBehindTold("gone a7", 5);
        faultDueBehindTold("7 gone", 0);
    }

    private static void firstOfTwoFaults() {
        faultDueBehindTold("gone 8;gone 9", 5);
        faultDueBehindTold("gone 7;gone 9;gone 8", 12);
        faultDueBehindTold("going 8 4320 720 241 0", 6);
        faultDueBehindTold("going 7 4320 720 241 0", 8);
        faultDueBehindTold("going 7 0 720 241 0", 10);
        faultDueBehindTold("going 7 0 0 241 0", 12);
        faultDueBehindTold("now 6 720", 4);
        faultDueBehindTold("now 6", 4);
        faultDueBehindTold("now 7 720 ;", 6);
    }

    private static void blanksAnywhere() {
        for (String line : LINES) {
            String wide = "   " + line.replace(" ", "    ") + "  ";
            faultDueBehindTold(wide, NONE);
            faultDueBehindTold("unread;" + wide + ";unread", NONE);
            faultDueBehindTold(line.replaceFirst(" ", ""), NONE);
            faultDueBehindTold(line.replaceFirst(" ", "") + ";unread", NONE);
        }
        // between two numbers there must be one: 71 is one number
        faultDueBehindTold("stopped 71", 8);
        faultDueBehindTold("stopped 7 1", NONE);
        // a blank ends a TOKEN
        faultDueBehindTold("stop ped 7 1", 0);
        faultDueBehindTold("stopped 0 7 1", 12);
    }

    /** The bytes next to a, z, 0, 9, ; and the blank are others; so is each one of 128 and more. */
    private static void signsNextToOthers() {
        for (int sign : new int[] {0, 9, 10, 13, 31, 33, 47, 58, 60, 64, 65, 90, 91, 95, 96, 123, 127, 128, 160, 187, 255}) {
            faultDueBehindTold("unread" + (char) sign + "unread", 6);
            faultDueBehindTold((char) sign + "gone 7", 0);
            faultDueBehindTold("gone " + (char) sign, 5);
            faultDueBehindTold("gone 7 " + (char) sign, 7);
        }
    }

    /** An unread LINE names no CLOCK, not even the one that stood in a LINE ahead or in an earlier text. */
    private static void unreadTellsNone() {
        WrongClocks x = Checks.told("stopped 5 1");
        Checks.tell(x, "gone 5");
        Checks.faultDue(x, "unread;now 5 0", 11);
        Checks.faultDue(x, "unread;unread;now 5 0", 18);
        Checks.faultDue(x, "now 5 0", 4);
        Checks.tell(x, "unread;stopped 5 1;unread;now 5 0");
        Checks.due(6, "clock(5, 5)", x.clock(5, 5), 0);
    }

    private static void houses() {
        WrongClocks x = new WrongClocks();
        Checks.due(5, "house() of nothing", x.house(), NOT);
        Checks.write(x, "going 0 1 2 3 4;gone 8");
        Checks.due(5, "house() with a fault", x.house(), NOT);
        Checks.due(5, "no line of it is done", x.count(0), 0);
        Checks.due(5, "the text stays", x.count(3), 22);
        x.erase();
        Checks.tell(x, "going 0 1 2 3 4;gone 7");
        Checks.due(5, "the text is empty", x.count(3), 0);
        Checks.due(5, "the clock is told", x.count(0), 1);
        Checks.tell(x, "stopped 7 1;unread;unread;unread;unread;unread;unread;now 7 2");
        Checks.due(5, "what earlier texts told stays", x.count(0), 129);
        Checks.due(5, "the eighth line is done", x.clock(7, 5), 2);
    }

    private static void linesInOrder() {
        WrongClocks x = Checks.told("stopped 1 10;now 1 20;stopped 2 30;now 2 40");
        Checks.due(5, "READ of both", x.count(1), 6);
        Checks.tell(x, "stopped 1 11");
        Checks.due(5, "a clock told anew is not READ", x.clock(1, 5), NONE);
        Checks.due(5, "the other one stays READ", x.clock(2, 5), 40);
        Checks.tell(x, "now 1 21;now 1 22");
        Checks.due(5, "read twice", x.clock(1, 5), 22);
        Checks.tell(x, "unread;now 2 41");
        Checks.due(5, "unread, then one read", x.count(1), 4);
        Checks.tell(x, "now 1 23;unread");
        Checks.due(5, "unread", x.count(1), 0);
        Checks.due(5, "unread leaves them told", x.count(0), 6);
        Checks.tell(x, "now 1 9;gone 1;gone 5");
        Checks.due(5, "gone: not told", x.count(0), 4);
        Checks.due(5, "gone: not READ", x.count(1), 0);
        Checks.tell(x, "going 1 5 6 7 8;gone 1;back 1 9 10 11 12;gone 2;stopped 2 13");
        Checks.due(5, "told, gone and told again", x.clock(1, 1), 9);
        Checks.due(5, "gone and told again is not READ", x.clock(2, 5), NONE);
        Checks.tell(x, "now 1 9;back 1 9 10 11 12;now 2 0;going 2 0 0 0 0");
        Checks.due(5, "told anew behind its reading", x.count(1), 0);
    }

    private static void clocks() {
        WrongClocks x = Checks.told("going 0 4319 719 0 240;back 3 0 0 120 121;stopped 7 719");
        clockDue(x, 0, 0, 4319, 719, 0, 240, NONE);
        clockDue(x, 3, 1, 0, 0, 120, 121, NONE);
        clockDue(x, 7, 2, NONE, 719, NONE, NONE, NONE);
        Checks.tell(x, "now 0 0;now 3 719;now 7 5");
        clockDue(x, 0, 0, 4319, 719, 0, 240, 0);
        clockDue(x, 3, 1, 0, 0, 120, 121, 719);
        clockDue(x, 7, 2, NONE, 719, NONE, NONE, 5);
        for (int what : new int[] {-1, 6, Integer.MAX_VALUE, Integer.MIN_VALUE}) {
            Checks.due(6, "clock(0, " + what + ")", x.clock(0, what), OUTSIDE);
            Checks.due(6, "clock(1, " + what + ")", x.clock(1, what), UNKNOWN);
        }
        for (int k : new int[] {-1, 1, 8, Integer.MAX_VALUE, Integer.MIN_VALUE}) {
            Checks.due(6, "clock(" + k + ", 0)", x.clock(k, 0), UNKNOWN);
        }
        Checks.tell(x, "stopped 0 5;going 7 1 2 3 4");
        clockDue(x, 0, 2, NONE, 5, NONE, NONE, NONE);
        clockDue(x, 7, 0, 1, 2, 3, 4, NONE);
    }

    private static void clockDue(WrongClocks x, int k, int... wants) {
        for (int what = 0; what < 6; what++) {
            Checks.due(6, "clock(" + k + ", " + what + ")", x.clock(k, what), wants[what]);
        }
    }

    private static void counts() {
        WrongClocks x = Checks.told("stopped 0 0;stopped 7 0;going 2 0 0 0 0;now 7 1;now 2 1");
        x.note(0, 0, 0);
        x.note(2, 0, 0);
        x.note(0, 0, 0);
        Checks.write(x, "gone");
        Checks.due(23, "count(0)", x.count(0), 133);
        Checks.due(23, "count(1)", x.count(1), 132);
        Checks.due(23, "count(2)", x.count(2), 3);
        Checks.due(23, "count(3)", x.count(3), 4);
        for (int what : new int[] {-1, 4, Integer.MAX_VALUE, Integer.MIN_VALUE}) {
            Checks.due(23, "count(" + what + ")", x.count(what), OUTSIDE);
        }
    }
}
