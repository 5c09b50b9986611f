import java.nio.charset.StandardCharsets;

/** Long rows of calls, always the same ones, on the class and on the model side by side. */
public final class ModelTest {
    private static final int RUNS = 80;
    private static final int CALLS = 512;

    private long seed;
    private WrongClocks x;
    private Model model;
    private int calls;
    // The minute that most readings of a run are made for.
    private int truth;

    private ModelTest(long seed) {
        this.seed = seed;
    }

    /** Of a number of runs, if it is told: more of them for a longer look. */
    public static void main(String[] args) {
        int runs = args.length == 0 ? RUNS : Integer.parseInt(args[0]);
        for (int run = 0; run < runs && Checks.wrongs() < 20; run++) {
            new ModelTest(run * 7919L + 1).run();
        }
        Checks.end();
    }

    /** A row of numbers that is the same each time. */
    private int any(int bound) {
        seed = seed * 6364136223846793005L + 1442695040888963407L;
        return (int) ((seed >>> 33) % bound);
    }

    private int pick(int... values) {
        return values[any(values.length)];
    }

    private void run() {
        x = new WrongClocks();
        model = new Model();
        calls = 0;
        truth = any(4320);
        boolean sure = any(2) == 0;
        while (calls < CALLS - 40) {
            if (any(6) == 0) {
                sayText(sure);
            }
            ask();
            if (any(40) == 0) {
                truth = any(4320);
            }
        }
    }

    private void same(int promise, String call, long got, long want) {
        calls++;
        Checks.due(promise, "call " + calls + ", " + call, got, want);
    }

    private void sayText(boolean sure) {
        StringBuilder text = new StringBuilder();
        int lines = any(12) == 0 ? 8 + any(2) : 1 + any(4);
        for (int i = 0; i < lines; i++) {
            text.append(i == 0 ? "" : any(6) == 0 ? " ; " : ";").append(line(sure));
        }
        if (any(5) == 0) {
            spoil(text);
        }
        say(text.toString());
        same(4, "fault() of \"" + text + "\"", x.fault(), model.fault());
        if (any(8) != 0) {
            same(5, "house() of \"" + text + "\"", x.house(), model.house());
        }
        if (any(8) != 0) {
            same(3, "erase()", x.erase(), model.erase());
        }
    }

    private void say(String text) {
        byte[] bytes = text.getBytes(StandardCharsets.ISO_8859_1);
        for (int at = 0; at < bytes.length; at += 8) {
            int n = Math.min(8, bytes.length - at);
            long packed = Checks.packed(bytes, at, n);
            same(2, "write " + text, x.write(packed, n), model.write(packed, n));
        }
    }

    private String line(boolean sure) {
        int k = any(8);
        switch (any(10)) {
            case 0: case 1: case 2: return "going " + k + " " + running(sure);
            case 3: return "back " + k + " " + running(sure);
            case 4: return any(3) == 0 ? "stopped " + k + " " + any(720) : "going " + k + " " + running(sure);
            case 5: return any(3) == 0 ? "gone " + k : any(3) == 0 ? "unread" : "stopped" + k + " 0" + any(720);
            default: return "now " + k + " " + reading(k);
        }
    }

    private String running(boolean sure) {
        int low = any(3) == 0 ? pick(0, 120, 240, 119, 121) : any(241);
        int high = sure || any(2) == 0 ? low : low + any(Math.min(241 - low, pick(3, 20, 241)));
        int set = any(4) == 0 ? pick(0, 4319, 1440, 720) : any(4320);
        int dial = any(4) == 0 ? pick(0, 719, 60, 360) : any(720);
        return set + " " + dial + "  " + low + " " + high;
    }

    /** Mostly what the clock shows at the true minute, so that some minutes are left. */
    private int reading(int k) {
        int shown = model.shows(k, truth, any(2));
        return shown < 0 || any(8) == 0 ? any(720) : shown;
    }

    private void spoil(StringBuilder text) {
        int place = any(text.length());
        switch (any(5)) {
            case 0: text.deleteCharAt(place); break;
            case 1: text.insert(place, (char) pick(0, 9, 10, 47, 58, 59, 64, 96, 123, 128, 200, 255, 32)); break;
            case 2: text.insert(place, (char) ('0' + any(10))); break;
            case 3: text.setCharAt(place, (char) any(256)); break;
            default: text.setLength(place); break;
        }
    }

    private int minute() {
        return pick(any(4320), any(4320), truth, 0, 4319, any(40) == 0 ? pick(-1, 4320) : truth);
    }

    private int clock() {
        return any(30) == 0 ? pick(-1, 8, Integer.MAX_VALUE, Integer.MIN_VALUE) : any(8);
    }

    private int what(int most) {
        return any(20) == 0 ? pick(-1, most + 1, Integer.MIN_VALUE, Integer.MAX_VALUE) : any(most + 1);
    }

    private void ask() {
        switch (any(12)) {
            case 0: askClock(); break;
            case 1: case 2: askTime(); break;
            case 3: case 4: case 5: askNotes(); break;
            case 6: askAgain(); askMeeting(); break;
            case 7: askStopped(); break;
            case 8: case 9: askSetBy(); break;
            case 10: askEgg(); break;
            default: askRest(); break;
        }
    }

    private void askClock() {
        int k = clock();
        int what = what(5);
        same(6, "clock(" + k + ", " + what + ")", x.clock(k, what), model.clock(k, what));
        int minute = minute();
        int end = what(1);
        same(7, "shows(" + k + ", " + minute + ", " + end + ")", x.shows(k, minute, end), model.shows(k, minute, end));
        int shown = model.shows(k, minute, any(2));
        int m = pick(any(720), shown, shown + 1, shown - 1, 720, -1);
        same(8, "can(" + k + ", " + minute + ", " + m + ")", x.can(k, minute, m), model.can(k, minute, m));
    }

    private void askTime() {
        int minute = minute();
        same(9, "fits(" + minute + ")", x.fits(minute), model.fits(minute));
        int what = what(3);
        same(10, "times(" + what + ")", x.times(what), model.times(what));
        what = what(2);
        same(11, "liars(" + what + ")", x.liars(what), model.liars(what));
        what = what(1);
        same(12, "next(" + what + ")", x.next(what), model.next(what));
    }

    private void askNotes() {
        int k = clock();
        int minute = minute();
        int shown = model.shows(k, minute, 0);
        int m = any(6) == 0 ? pick(any(720), shown + 1, 720, -1) : shown;
        same(13, "note(" + k + ", " + minute + ", " + m + ")", x.note(k, minute, m), model.note(k, minute, m));
        for (int what = 0; what < 3; what++) {
            same(15, "rates(" + k + ", " + what + ")", x.rates(k, what), model.rates(k, what));
        }
        if (any(15) == 0) {
            same(14, "burn()", x.burn(), model.burn());
        }
    }

    private void askAgain() {
        int set = any(10) == 0 ? pick(-1, 256, any(256)) : 0;
        for (int i = 0; i < 2 + any(2); i++) {
            int k = any(8);
            boolean good = model.clock(k, 0) == 0 && model.clock(k, 3) == model.clock(k, 4);
            set |= good || any(15) == 0 ? 1 << k : 0;
        }
        int minute = pick(0, any(4320), any(10000000), 9999999, any(20) == 0 ? pick(-1, 10000000) : 36000);
        same(16, "again(" + set + ", " + minute + ")", x.again(set, minute), model.again(set, minute));
    }

    /** Clocks that were told so that they meet at a minute, and now and then not quite. */
    private void askMeeting() {
        if (any(3) != 0) {
            return;
        }
        same(3, "erase()", x.erase(), model.erase());
        int meeting = any(10000000);
        int set = 0;
        int first = any(4);
        int common = any(720);
        StringBuilder text = new StringBuilder();
        for (int k = first; k < first + 2 + any(3); k++) {
            int rate = any(241) - 120;
            int told = meeting % 1440 + 1440 * any(3) % 4320;
            long days = (meeting - told) / 1440;
            long dial = Math.floorMod(common - days * rate + (any(20) == 0 ? 1 : 0), 720L);
            text.append(set == 0 ? "" : ";").append("going ").append(k).append(' ').append(told).append(' ');
            text.append(dial).append(' ').append(rate + 120).append(' ').append(rate + 120);
            set |= 1 << k;
        }
        say(text.toString());
        same(5, "house() of \"" + text + "\"", x.house(), model.house());
        int minute = pick(0, any(10000000), Math.max(0, meeting - any(1036800)), meeting, meeting + 1);
        same(16, "again(" + set + ", " + minute + ")", x.again(set, minute), model.again(set, minute));
    }

    private void askStopped() {
        int k = clock();
        int make = clock();
        int what = what(2);
        String call = "stopped(" + k + ", " + make + ", " + what + ")";
        same(17, call, x.stopped(k, make, what), model.stopped(k, make, what));
    }

    private void askSetBy() {
        int k = clock();
        int other = clock();
        int minute = minute();
        int what = what(1);
        String call = "setBy(" + k + ", " + other + ", " + minute + ", " + what + ")";
        same(18, call, x.setBy(k, other, minute, what), model.setBy(k, other, minute, what));
    }

    private void askEgg() {
        int one = clock();
        int other = clock();
        int minute = minute();
        int n = any(10) == 0 ? pick(0, 61, 1, 60) : 1 + any(60);
        int part = what(1);
        String call = "egg(" + one + ", " + other + ", " + minute + ", " + n + ", " + part + ")";
        same(19, call, x.egg(one, other, minute, n, part), model.egg(one, other, minute, n, part));
    }

    private void askRest() {
        int i = pick(-1, -1, 0, 1, 2, 3, 4, 5, 6, -2, Integer.MAX_VALUE, Integer.MIN_VALUE);
        same(20, "order(" + i + ")", x.order(i), model.order(i));
        int k = any(10) == 0 ? pick(-1, 2) : any(2);
        if (any(3) == 0) {
            same(21, "keep(" + k + ")", x.keep(k), model.keep(k));
        } else if (any(3) == 0) {
            same(22, "back(" + k + ")", x.back(k), model.back(k));
        }
        int what = what(3);
        same(23, "count(" + what + ")", x.count(what), model.count(what));
    }
}
