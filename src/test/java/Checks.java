import java.nio.charset.StandardCharsets;

/** What the tests share: checks that count what is wrong, and texts written byte by byte. */
final class Checks {
    private static int right = 0;
    private static int wrong = 0;

    private Checks() {
    }

    static void due(int promise, String call, long got, long want) {
        if (got == want) {
            right++;
            return;
        }
        wrong++;
        System.out.println("promise " + promise + ": " + call + " answered " + got + ", due is " + want);
    }

    static void holds(String rule, boolean good) {
        if (good) {
            right++;
            return;
        }
        wrong++;
        System.out.println("broken: " + rule);
    }

    static int wrongs() {
        return wrong;
    }

    /** Ends the test: exit code 1 if a check was wrong, or if there was none. */
    static void end() {
        System.out.println(right + " checks right, " + wrong + " wrong");
        if (wrong != 0 || right == 0) {
            System.exit(1);
        }
    }

    static int write(WrongClocks x, String text) {
        byte[] bytes = text.getBytes(StandardCharsets.ISO_8859_1);
        int answer = x.count(3);
        for (int at = 0; at < bytes.length; at += 8) {
            int n = Math.min(8, bytes.length - at);
            answer = x.write(packed(bytes, at, n), n);
        }
        return answer;
    }

    static long packed(byte[] bytes, int at, int n) {
        long packed = 0;
        for (int i = 0; i < n; i++) {
            packed |= (bytes[at + i] & 255L) << 8 * i;
        }
        return packed;
    }

    /** Writes a text and has its lines done; it must have no fault. */
    static void tell(WrongClocks x, String text) {
        write(x, text);
        int lines = (int) text.chars().filter(c -> c == ';').count() + 1;
        due(5, "house() of \"" + text + "\"", x.house(), lines);
    }

    static WrongClocks told(String text) {
        WrongClocks x = new WrongClocks();
        tell(x, text);
        return x;
    }

    /** Of all DIALS at a MINUTE clock 0 can show those from least to most, and no other; few calls by an object. */
    static void canOnly(String line, int minute, int least, int most) {
        for (int from = 0; from < 720; from += 360) {
            WrongClocks x = told(line);
            for (int m = from; m < from + 360; m++) {
                boolean within = m >= least && m <= most || m + 720 >= least && m + 720 <= most;
                due(8, line + ": can(0, " + minute + ", " + m + ")", x.can(0, minute, m), within ? 1 : 0);
            }
        }
    }

    /** Where the fault of a text is, on an object of which some clocks are told; the text is erased again. */
    static void faultDue(WrongClocks x, String text, int want) {
        write(x, text);
        due(4, "fault() of \"" + text + "\"", x.fault(), want);
        if (want != WrongClocks.NONE) {
            due(5, "house() of \"" + text + "\"", x.house(), WrongClocks.NOT);
            due(5, "count(3) behind house() of \"" + text + "\"", x.count(3), text.length());
        }
        due(3, "erase() of \"" + text + "\"", x.erase(), text.length());
    }
}
