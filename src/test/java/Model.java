import java.math.BigInteger;
import java.util.ArrayList;
import java.util.List;
import java.util.regex.Matcher;
import java.util.regex.Pattern;

/**
 * The document told a second time, as plainly as can be and without care for speed: what it says "there is" is
 * searched for. It shares no line with the class, so that one fault is not made twice.
 */
final class Model {
    private static final int NONE = -1, UNKNOWN = -2, OUTSIDE = -3, NOT = -4, FULL = -5;
    private static final Pattern TOKEN = Pattern.compile("[a-z]+|[0-9]+|[^ a-z0-9]", Pattern.DOTALL);

    /** One clock: what kind it is, and what is told of it. */
    record Clock(int kind, long set, long dial, long low, long high, int read) {
        Clock reading(int m) {
            return new Clock(kind, set, dial, low, high, m);
        }

        /** The hand, in parts of 1440 of a minute. */
        long hand(long minute, long rate) {
            return switch (kind) {
                case 0 -> 1440 * dial + (minute - set) * (1440 + rate);
                case 1 -> 1440 * dial - (minute - set) * (1440 + rate);
                default -> 1440 * dial;
            };
        }

        int shows(long minute, long rate) {
            long hand = hand(minute, rate);
            long whole = hand / 1440;
            while (whole * 1440 > hand) {
                whole--;
            }
            long dial = whole % 720;
            return (int) (dial < 0 ? dial + 720 : dial);
        }

        boolean can(long minute, long m) {
            long one = hand(minute, low);
            long two = hand(minute, high);
            for (long turn = -20; turn <= 20; turn++) {
                long from = (m + 720 * turn) * 1440;
                if (Math.max(one, two) >= from && Math.min(one, two) < from + 1440) {
                    return true;
                }
            }
            return false;
        }

        boolean hasOneRate() {
            return kind == 2 || low == high;
        }

        boolean runsByOneRate() {
            return kind != 2 && low == high;
        }
    }

    record Note(int clock, int minute, int dial) {
    }

    record Kept(Clock[] clocks, List<Note> notes) {
    }

    /** What a text says: its fault, and the clocks behind it. */
    record Heard(int fault, int lines, Clock[] clocks) {
    }

    private String text = "";
    private Clock[] clocks = new Clock[8];
    private List<Note> notes = new ArrayList<>();
    private final Kept[] kept = new Kept[2];

    private Clock at(int clock) {
        return clock < 0 || clock > 7 ? null : clocks[clock];
    }

    private static boolean in(long value, long least, long most) {
        return least <= value && value <= most;
    }

    int write(long bytes, int n) {
        if (!in(n, 1, 8)) {
            return OUTSIDE;
        }
        if (text.length() + n > 200) {
            return FULL;
        }
        for (int i = 0; i < n; i++) {
            text += (char) (bytes >>> 8 * i & 255);
        }
        return text.length();
    }

    int erase() {
        int had = text.length();
        text = "";
        return had;
    }

    /** Tokens are taken one by one: fields that a line still wants are in a row of letters. */
    private Heard hear() {
        Clock[] now = clocks.clone();
        Matcher token = TOKEN.matcher(text);
        int lines = 0;
        String word = null;
        String wants = null;
        List<Integer> got = new ArrayList<>();
        while (token.find()) {
            String t = token.group();
            int place = token.start();
            if (word == null) {
                wants = switch (t) {
                    case "going", "back" -> "kdalh";
                    case "stopped" -> "ka";
                    case "gone" -> "k";
                    case "now" -> "ta";
                    case "unread" -> "";
                    default -> null;
                };
                if (wants == null) {
                    return new Heard(place, lines, null);
                }
                word = t;
            } else if (wants.isEmpty()) {
                if (!t.equals(";") || lines == 8) {
                    return new Heard(place, lines, null);
                }
                word = null;
                continue;
            } else {
                if (!t.matches("[0-9]{1,4}") || !mayBe(Integer.parseInt(t), wants.charAt(0), got, now)) {
                    return new Heard(place, lines, null);
                }
                got.add(Integer.parseInt(t));
                wants = wants.substring(1);
            }
            if (wants.isEmpty()) {
                lines++;
                obey(word, got, now);
                got.clear();
            }
        }
        boolean whole = word != null && wants.isEmpty();
        return new Heard(whole ? NONE : text.length(), lines, now);
    }

    private static boolean mayBe(int value, char want, List<Integer> got, Clock[] now) {
        return switch (want) {
            case 'k' -> value < 8;
            case 't' -> value < 8 && now[value] != null;
            case 'd' -> value < 4320;
            case 'a' -> value < 720;
            case 'l' -> value <= 240;
            default -> value <= 240 && value >= got.get(3);
        };
    }

    private static void obey(String word, List<Integer> got, Clock[] now) {
        switch (word) {
            case "going" -> now[got.get(0)] = new Clock(0, got.get(1), got.get(2), got.get(3) - 120, got.get(4) - 120, NONE);
            case "back" -> now[got.get(0)] = new Clock(1, got.get(1), got.get(2), got.get(3) - 120, got.get(4) - 120, NONE);
            case "stopped" -> now[got.get(0)] = new Clock(2, NONE, got.get(1), NONE - 120, NONE - 120, NONE);
            case "gone" -> now[got.get(0)] = null;
            case "now" -> now[got.get(0)] = now[got.get(0)].reading(got.get(1));
            default -> {
                for (int i = 0; i < 8; i++) {
                    now[i] = now[i] == null ? null : now[i].reading(NONE);
                }
            }
        }
    }

    int fault() {
        return hear().fault();
    }

    int house() {
        Heard heard = hear();
        if (heard.fault() != NONE) {
            return NOT;
        }
        clocks = heard.clocks();
        text = "";
        return heard.lines();
    }

    int clock(int clock, int what) {
        Clock c = at(clock);
        if (c == null) {
            return UNKNOWN;
        }
        return switch (what) {
            case 0 -> c.kind();
            case 1 -> (int) c.set();
            case 2 -> (int) c.dial();
            case 3 -> (int) c.low() + 120;
            case 4 -> (int) c.high() + 120;
            case 5 -> c.read();
            default -> OUTSIDE;
        };
    }

    int shows(int clock, int minute, int end) {
        Clock c = at(clock);
        if (c == null) {
            return UNKNOWN;
        }
        if (!in(minute, 0, 4319) || !in(end, 0, 1)) {
            return OUTSIDE;
        }
        return c.shows(minute, end == 0 ? c.low() : c.high());
    }

    int can(int clock, int minute, int m) {
        Clock c = at(clock);
        if (c == null) {
            return UNKNOWN;
        }
        if (!in(minute, 0, 4319) || !in(m, 0, 719)) {
            return OUTSIDE;
        }
        return c.can(minute, m) ? 1 : 0;
    }

    int fits(int minute) {
        if (!in(minute, 0, 4319)) {
            return OUTSIDE;
        }
        int bits = 0;
        for (int i = 0; i < 8; i++) {
            if (clocks[i] != null && clocks[i].read() != NONE && clocks[i].can(minute, clocks[i].read())) {
                bits += 1 << i;
            }
        }
        return bits;
    }

    private int read() {
        int bits = 0;
        for (int i = 0; i < 8; i++) {
            bits += clocks[i] != null && clocks[i].read() != NONE ? 1 << i : 0;
        }
        return bits;
    }

    /** The minutes at which all that are read fit, but for some that are left out. */
    private List<Integer> minutes(int leftOut, int[] fits) {
        List<Integer> minutes = new ArrayList<>();
        int read = read();
        for (int t = 0; t < 4320; t++) {
            if ((fits[t] | leftOut) == (read | leftOut)) {
                minutes.add(t);
            }
        }
        return minutes;
    }

    private int[] allFits() {
        int[] fits = new int[4320];
        for (int t = 0; t < 4320; t++) {
            fits[t] = fits(t);
        }
        return fits;
    }

    private static int ofList(List<Integer> list, int what) {
        return switch (what) {
            case 0 -> list.size();
            case 1 -> list.isEmpty() ? NONE : list.get(0);
            default -> list.isEmpty() ? NONE : list.get(list.size() - 1);
        };
    }

    int times(int what) {
        if (!in(what, 0, 3)) {
            return OUTSIDE;
        }
        List<Integer> times = minutes(0, allFits());
        if (what < 3) {
            return ofList(times, what);
        }
        return (int) times.stream().filter(t -> !times.contains(t - 1)).count();
    }

    int liars(int what) {
        if (!in(what, 0, 2)) {
            return OUTSIDE;
        }
        int[] fits = allFits();
        for (int many = 0; many <= 8; many++) {
            for (int set = 0; set < 256; set++) {
                if (Integer.bitCount(set) != many || (set & ~read()) != 0) {
                    continue;
                }
                List<Integer> left = minutes(set, fits);
                if (!left.isEmpty()) {
                    return what == 0 ? many : what == 1 ? set : left.get(0);
                }
            }
        }
        throw new IllegalStateException("all left out, and still no minute");
    }

    int next(int what) {
        if (!in(what, 0, 1)) {
            return OUTSIDE;
        }
        List<Integer> times = minutes(0, allFits());
        int best = NONE;
        int fewest = NONE;
        for (int i = 7; i >= 0; i--) {
            Clock c = clocks[i];
            if (c == null || c.read() != NONE || !c.hasOneRate()) {
                continue;
            }
            int worst = 0;
            int[] many = new int[720];
            for (int t : times) {
                many[c.shows(t, c.low())]++;
            }
            for (int m : many) {
                worst = Math.max(worst, m);
            }
            if (best == NONE || worst <= fewest) {
                best = i;
                fewest = worst;
            }
        }
        return what == 0 ? best : fewest;
    }

    int note(int clock, int minute, int m) {
        if (at(clock) == null) {
            return UNKNOWN;
        }
        if (!in(minute, 0, 4319) || !in(m, 0, 719)) {
            return OUTSIDE;
        }
        if (notes.size() == 12) {
            return FULL;
        }
        notes.add(new Note(clock, minute, m));
        return notes.size();
    }

    int burn() {
        int had = notes.size();
        notes.clear();
        return had;
    }

    int rates(int clock, int what) {
        Clock c = at(clock);
        if (c == null) {
            return UNKNOWN;
        }
        if (!in(what, 0, 2)) {
            return OUTSIDE;
        }
        List<Note> own = notes.stream().filter(n -> n.clock() == clock).toList();
        List<Integer> rates = new ArrayList<>();
        for (int rate = -120; rate <= 120; rate++) {
            if (own.isEmpty() || someHand(own, c.kind(), rate)) {
                rates.add(rate + 120);
            }
        }
        return ofList(rates, what);
    }

    /** If there is a hand at all, there is one at which one of the notes has just come to be true. */
    private static boolean someHand(List<Note> own, int kind, int rate) {
        for (Note n : own) {
            long start = n.dial() * 1440L - gone(n, kind, rate);
            boolean all = true;
            for (Note other : own) {
                all &= Math.floorMod(start + gone(other, kind, rate), 1036800L) / 1440 == other.dial();
            }
            if (all) {
                return true;
            }
        }
        return false;
    }

    private static long gone(Note n, int kind, int rate) {
        return kind == 2 ? 0 : (kind == 1 ? -1L : 1L) * n.minute() * (1440 + rate);
    }

    int again(int set, int minute) {
        if (!in(set, 0, 255) || Integer.bitCount(set) < 2 || !in(minute, 0, 9999999)) {
            return OUTSIDE;
        }
        List<Clock> all = new ArrayList<>();
        for (int i = 0; i < 8; i++) {
            if ((set >> i & 1) == 1) {
                if (clocks[i] == null || clocks[i].kind() != 0 || !clocks[i].hasOneRate()) {
                    return OUTSIDE;
                }
                all.add(clocks[i]);
            }
        }
        Clock first = all.get(0);
        for (int t = minute; t < minute + 1036800; t++) {
            boolean alike = true;
            for (int i = 1; alike && i < all.size(); i++) {
                Clock c = all.get(i);
                alike = (c.hand(t, c.low()) - first.hand(t, first.low())) % 1036800 == 0;
            }
            if (alike) {
                return t;
            }
        }
        return NONE;
    }

    int stopped(int clock, int make, int what) {
        Clock still = at(clock);
        Clock like = at(make);
        if (still == null || like == null) {
            return UNKNOWN;
        }
        if (!in(what, 0, 2)) {
            return OUTSIDE;
        }
        if (still.kind() != 2 || like.kind() == 2) {
            return NOT;
        }
        List<Integer> minutes = new ArrayList<>();
        for (int t = 0; t < 4320; t++) {
            if (like.can(t, still.dial())) {
                minutes.add(t);
            }
        }
        return ofList(minutes, what);
    }

    int setBy(int clock, int other, int minute, int what) {
        Clock c = at(clock);
        Clock striker = at(other);
        if (c == null || striker == null) {
            return UNKNOWN;
        }
        if (clock == other || !in(minute, 0, 4319) || !in(what, 0, 1)) {
            return OUTSIDE;
        }
        if (c.kind() != 0 || c.read() == NONE || !striker.runsByOneRate()) {
            return NOT;
        }
        List<Integer> minutes = new ArrayList<>();
        for (int s = 0; s <= minute; s++) {
            if (striker.hand(s, striker.low()) % 86400 == 0) {
                Clock set = new Clock(0, s, striker.shows(s, striker.low()), c.low(), c.high(), c.read());
                if (set.can(minute, c.read())) {
                    minutes.add(s);
                }
            }
        }
        return ofList(minutes, what);
    }

    /** When the hand stands at a whole minute for the i-th time, over 1440 and the rate: searched from t on. */
    private static long[] wholes(Clock c, int minute, int many) {
        long speed = 1440 + c.low();
        long[] wholes = new long[many];
        int found = 0;
        long hand = c.hand(minute, c.low());
        for (long parts = 0; found < many; parts++) {
            if ((c.kind() == 0 ? hand + parts : hand - parts) % 1440 == 0) {
                wholes[found] = parts;
                found++;
            }
        }
        if (speed < 1) {
            throw new IllegalStateException("no speed");
        }
        return wholes;
    }

    long egg(int one, int other, int minute, int n, int part) {
        Clock a = at(one);
        Clock b = at(other);
        if (a == null || b == null) {
            return UNKNOWN;
        }
        if (!in(minute, 0, 4319) || !in(n, 1, 60) || !in(part, 0, 1)) {
            return OUTSIDE;
        }
        if (!a.runsByOneRate() || !b.runsByOneRate()) {
            return NOT;
        }
        long speedA = 1440 + a.low();
        long speedB = 1440 + b.low();
        long best = Long.MAX_VALUE;
        for (long start : wholes(a, minute, 60)) {
            for (long end : wholes(b, minute, 240)) {
                long length = end * speedA - start * speedB;
                if (length > 0) {
                    best = Math.min(best, Math.abs(length - n * speedA * speedB));
                }
            }
        }
        BigInteger below = BigInteger.valueOf(speedA * speedB);
        BigInteger above = BigInteger.valueOf(best);
        return (part == 0 ? above : below).divide(above.gcd(below)).longValue();
    }

    int order(int i) {
        if (i < NONE) {
            return OUTSIDE;
        }
        List<Integer> all = new ArrayList<>();
        for (int k = 0; k < 8; k++) {
            if (clocks[k] != null && clocks[k].kind() == 0 && clocks[k].low() == clocks[k].high()) {
                all.add(k);
            }
        }
        if (all.isEmpty() || all.size() > 6) {
            return NOT;
        }
        List<List<Integer>> orders = new ArrayList<>();
        permute(new ArrayList<>(), all, orders);
        List<Integer> best = null;
        for (List<Integer> order : orders) {
            if (best == null || greatest(order) < greatest(best)) {
                best = order;
            }
        }
        return i == NONE ? greatest(best) : i < best.size() ? best.get(i) : NONE;
    }

    /** All orders, the first by clocks ahead. */
    private static void permute(List<Integer> head, List<Integer> rest, List<List<Integer>> orders) {
        if (rest.isEmpty()) {
            orders.add(new ArrayList<>(head));
        }
        for (Integer k : rest) {
            List<Integer> others = new ArrayList<>(rest);
            others.remove(k);
            head.add(k);
            permute(head, others, orders);
            head.remove(head.size() - 1);
        }
    }

    private int greatest(List<Integer> order) {
        int greatest = 0;
        int sum = 0;
        for (int k : order) {
            sum += (int) clocks[k].low();
            greatest = Math.max(greatest, Math.abs(sum));
        }
        return greatest;
    }

    private int told() {
        int bits = 0;
        for (int i = 0; i < 8; i++) {
            bits += clocks[i] != null ? 1 << i : 0;
        }
        return bits;
    }

    int keep(int k) {
        if (!in(k, 0, 1)) {
            return UNKNOWN;
        }
        kept[k] = new Kept(clocks.clone(), new ArrayList<>(notes));
        return Integer.bitCount(told());
    }

    int back(int k) {
        if (!in(k, 0, 1)) {
            return UNKNOWN;
        }
        if (kept[k] == null) {
            return NOT;
        }
        clocks = kept[k].clocks().clone();
        notes = new ArrayList<>(kept[k].notes());
        return Integer.bitCount(told());
    }

    int count(int what) {
        return switch (what) {
            case 0 -> told();
            case 1 -> read();
            case 2 -> notes.size();
            case 3 -> text.length();
            default -> OUTSIDE;
        };
    }
}
