import java.util.Arrays;

/** Eight clocks of which none is right, told in a text: what they can show, and what time it can be by them. */
public final class WrongClocks {
    public static final int NONE = -1, UNKNOWN = -2, OUTSIDE = -3, NOT = -4, FULL = -5;

    private static final int GOING = 0, BACK = 1, STOPPED = 2, GONE = 3, NOW = 4, UNREAD = 5, WORDS = 6;
    private static final int CLOCKS = 8, MINUTES = 4320, DIALS = 720, DAY = 1440, HOUR = 60;
    private static final int FASTEST = 120, RATES = 2 * FASTEST + 1;
    private static final int BYTES = 200, LINES = 8, NOTES = 12, KEPT = 2;
    private static final int LATEST = 9999999, LONGEST_EGG = 60, BEGINNINGS = 60, ENDINGS = 240, LONGEST_ORDER = 6;

    // By whole RATES a HAND stands, at each MINUTE, at a whole number of parts of 1440 of a minute:
    // hands are told in these parts, and twelve hours are ROUND of them.
    private static final int ROUND = DIALS * DAY;

    private final Text text = new Text();
    private final House present = new House();
    private final House[] kept = new House[KEPT];
    private final Tally tally = new Tally();
    private final Clock trial = new Clock();
    private final Queue queue = new Queue();

    // By MINUTE the CLOCKS that are READ and do not FIT; only while sifted.
    private final int[] misfits = new int[MINUTES];
    private boolean sifted = false;
    private final int[] shown = new int[DIALS];

    public WrongClocks() {
        for (int k = 0; k < KEPT; k++) {
            kept[k] = new House();
        }
    }

    // ---- what is told

    public int write(long bytes, int n) {
        if (n < 1 || n > 8) {
            return OUTSIDE;
        }
        if (text.length + n > BYTES) {
            return FULL;
        }
        for (int i = 0; i < n; i++) {
            text.put((int) (bytes >> 8 * i & 255));
        }
        return text.length;
    }

    public int erase() {
        int length = text.length;
        text.length = 0;
        return length;
    }

    public int fault() {
        return text.findFault(present.toldBits());
    }

    public int house() {
        if (text.findFault(present.toldBits()) != NONE) {
            return NOT;
        }
        for (int line = 0; line < text.lineCount; line++) {
            present.heed(text, line);
        }
        sifted = false;
        text.length = 0;
        return text.lineCount;
    }

    public int clock(int clock, int what) {
        Clock told = present.toldClock(clock);
        if (told == null) {
            return UNKNOWN;
        }
        boolean still = told.kind == STOPPED;
        switch (what) {
            case 0: return told.kind;
            case 1: return still ? NONE : told.set;
            case 2: return told.dial;
            case 3: return still ? NONE : told.low + FASTEST;
            case 4: return still ? NONE : told.high + FASTEST;
            case 5: return told.read;
            default: return OUTSIDE;
        }
    }

    // ---- what time it is

    public int shows(int clock, int minute, int end) {
        Clock told = present.toldClock(clock);
        if (told == null) {
            return UNKNOWN;
        }
        if (!isBelow(minute, MINUTES) || !isBelow(end, 2)) {
            return OUTSIDE;
        }
        return told.dialAt(minute, end == 0 ? told.low : told.high);
    }

    public int can(int clock, int minute, int m) {
        Clock told = present.toldClock(clock);
        if (told == null) {
            return UNKNOWN;
        }
        if (!isBelow(minute, MINUTES) || !isBelow(m, DIALS)) {
            return OUTSIDE;
        }
        return told.canShow(minute, m) ? 1 : 0;
    }

    public int fits(int minute) {
        if (!isBelow(minute, MINUTES)) {
            return OUTSIDE;
        }
        return present.readBits() & ~present.misfitsAt(minute);
    }

    public int times(int what) {
        if (!isBelow(what, 4)) {
            return OUTSIDE;
        }
        sift();
        tally.clear();
        for (int minute = 0; minute < MINUTES; minute++) {
            if (misfits[minute] == 0) {
                tally.add(minute);
            }
        }
        return tally.tell(what);
    }

    public int liars(int what) {
        if (!isBelow(what, 3)) {
            return OUTSIDE;
        }
        sift();
        int first = 0;
        for (int minute = 1; minute < MINUTES; minute++) {
            if (isLess(misfits[minute], misfits[first])) {
                first = minute;
            }
        }
        switch (what) {
            case 0: return Integer.bitCount(misfits[first]);
            case 1: return misfits[first];
            default: return first;
        }
    }

    public int next(int what) {
        if (!isBelow(what, 2)) {
            return OUTSIDE;
        }
        sift();
        int best = NONE;
        int least = NONE;
        for (int i = 0; i < CLOCKS; i++) {
            Clock told = present.toldClock(i);
            if (told == null || told.read != NONE || told.low != told.high) {
                continue;
            }
            int left = mostLeftBy(told);
            if (best == NONE || left < least) {
                best = i;
                least = left;
            }
        }
        return what == 0 ? best : least;
    }

    private void sift() {
        if (sifted) {
            return;
        }
        for (int minute = 0; minute < MINUTES; minute++) {
            misfits[minute] = present.misfitsAt(minute);
        }
        sifted = true;
    }

    private static boolean isLess(int set, int other) {
        int less = Integer.bitCount(set) - Integer.bitCount(other);
        return less < 0 || less == 0 && set < other;
    }

    /** How many of TIMES are left at the worst, once a CLOCK with one RATE alone is read. */
    private int mostLeftBy(Clock clock) {
        Arrays.fill(shown, 0);
        int most = 0;
        for (int minute = 0; minute < MINUTES; minute++) {
            if (misfits[minute] == 0) {
                int dial = clock.dialAt(minute, clock.low);
                shown[dial]++;
                most = Math.max(most, shown[dial]);
            }
        }
        return most;
    }

    // ---- notes, rates

    public int note(int clock, int minute, int m) {
        if (present.toldClock(clock) == null) {
            return UNKNOWN;
        }
        if (!isBelow(minute, MINUTES) || !isBelow(m, DIALS)) {
            return OUTSIDE;
        }
        return present.notes.add(clock, minute, m) ? present.notes.many : FULL;
    }

    public int burn() {
        int many = present.notes.many;
        present.notes.many = 0;
        return many;
    }

    public int rates(int clock, int what) {
        Clock told = present.toldClock(clock);
        if (told == null) {
            return UNKNOWN;
        }
        if (!isBelow(what, 3)) {
            return OUTSIDE;
        }
        tally.clear();
        for (int i = 0; i < RATES; i++) {
            if (present.notes.allow(clock, told, i - FASTEST)) {
                tally.add(i);
            }
        }
        return tally.tell(what);
    }

    // ---- again, stopped, set by

    public int again(int set, int minute) {
        if (!canMeet(set) || minute < 0 || minute > LATEST) {
            return OUTSIDE;
        }
        Clock lead = null;
        // All CLOCKS looked at so far stand alike at place, and each step behind it.
        long place = 0;
        long step = 1;
        for (int i = 0; i < CLOCKS; i++) {
            Clock told = present.toldClock(i);
            if ((set >> i & 1) == 0 || told == null) {
                continue;
            }
            if (lead == null) {
                lead = told;
                continue;
            }
            long gain = told.low - lead.low;
            long lag = lead.handAt(0, lead.low) - told.handAt(0, told.low);
            long steps = leastFactor(gain * step, lag - gain * place);
            if (steps == NONE) {
                return NONE;
            }
            place += steps * step;
            step *= ROUND / sharedWithRound(gain * step);
        }
        return minute + (int) Math.floorMod(place - minute, Math.max(1, step));
    }

    private boolean canMeet(int set) {
        if (!isBelow(set, 1 << CLOCKS) || Integer.bitCount(set) < 2) {
            return false;
        }
        for (int i = 0; i < CLOCKS; i++) {
            if ((set >> i & 1) == 0) {
                continue;
            }
            Clock told = present.toldClock(i);
            if (told == null || told.kind != GOING || told.low != told.high) {
                return false;
            }
        }
        return true;
    }

    /** The least x, 0 or more, by which gain times x is lag, but for whole ROUNDs; or NONE. */
    private static long leastFactor(long gain, long lag) {
        long part = Math.floorMod(gain, (long) ROUND);
        long whole = Math.floorMod(lag, (long) ROUND);
        long shared = sharedWithRound(gain);
        if (whole % shared != 0) {
            return NONE;
        }
        long round = Math.max(1, ROUND / shared);
        return whole / shared * inverse(part / shared, round) % round;
    }

    private static long sharedWithRound(long value) {
        return Math.max(1, commonDivisor(Math.floorMod(value, (long) ROUND), ROUND));
    }

    /** The x, 0 or more and below round, by which value times x is 1, but for whole rounds; they share no divisor. */
    private static long inverse(long value, long round) {
        long rest = value;
        long factor = 1;
        long nextRest = round;
        long nextFactor = 0;
        for (int i = 0; i < 99 && nextRest != 0; i++) {
            long quotient = rest / nextRest;
            long behindRest = rest - quotient * nextRest;
            long behindFactor = factor - quotient * nextFactor;
            rest = nextRest;
            factor = nextFactor;
            nextRest = behindRest;
            nextFactor = behindFactor;
        }
        return round < 1 ? 0 : Math.floorMod(factor, round);
    }

    private static long commonDivisor(long one, long other) {
        long greater = one;
        long less = other;
        for (int i = 0; i < 99 && less != 0; i++) {
            long rest = greater % less;
            greater = less;
            less = rest;
        }
        return greater;
    }

    public int stopped(int clock, int make, int what) {
        Clock still = present.toldClock(clock);
        Clock like = present.toldClock(make);
        if (still == null || like == null) {
            return UNKNOWN;
        }
        if (!isBelow(what, 3)) {
            return OUTSIDE;
        }
        if (still.kind != STOPPED || like.kind == STOPPED) {
            return NOT;
        }
        tally.clear();
        for (int minute = 0; minute < MINUTES; minute++) {
            if (like.canShow(minute, still.dial)) {
                tally.add(minute);
            }
        }
        return tally.tell(what);
    }

    public int setBy(int clock, int other, int minute, int what) {
        Clock told = present.toldClock(clock);
        Clock striker = present.toldClock(other);
        if (told == null || striker == null) {
            return UNKNOWN;
        }
        if (clock == other || !isBelow(minute, MINUTES) || !isBelow(what, 2)) {
            return OUTSIDE;
        }
        if (told.kind != GOING || told.read == NONE || !striker.runsByOneRate()) {
            return NOT;
        }
        trial.copy(told);
        tally.clear();
        for (int stroke = 0; stroke <= minute; stroke++) {
            int hand = Math.floorMod(striker.handAt(stroke, striker.low), ROUND);
            if (hand % (HOUR * DAY) != 0) {
                continue;
            }
            trial.set = stroke;
            trial.dial = hand / DAY;
            if (trial.canShow(minute, told.read)) {
                tally.add(stroke);
            }
        }
        return tally.tell(what);
    }

    // ---- an egg, an order

    public long egg(int one, int other, int minute, int n, int part) {
        Clock starter = present.toldClock(one);
        Clock ender = present.toldClock(other);
        if (starter == null || ender == null) {
            return UNKNOWN;
        }
        if (!isBelow(minute, MINUTES) || n < 1 || n > LONGEST_EGG || !isBelow(part, 2)) {
            return OUTSIDE;
        }
        if (!starter.runsByOneRate() || !ender.runsByOneRate()) {
            return NOT;
        }
        // A hand goes DAY + rate parts in a MINUTE, so all beginnings and ends are whole numbers of 1 / below.
        long below = (long) (DAY + starter.low) * (DAY + ender.low);
        long above = leastOff(starter, ender, minute, n * below);
        long shared = Math.max(1, commonDivisor(above, below));
        return (part == 0 ? above : below) / shared;
    }

    /** How far the egg that is nearest to a wanted length is off; times in parts of a MINUTE by both speeds. */
    private static long leastOff(Clock starter, Clock ender, int minute, long wanted) {
        long startSpeed = DAY + starter.low;
        long endSpeed = DAY + ender.low;
        long firstStart = starter.partsToWholeMinute(minute) * endSpeed;
        long firstEnd = ender.partsToWholeMinute(minute) * startSpeed;
        long least = NONE;
        int end = 0;
        for (int i = 0; i < BEGINNINGS; i++) {
            long start = firstStart + i * DAY * endSpeed;
            // Ends only come nearer up to the last one ahead of the wanted time: that one and the next are looked at.
            while (end < ENDINGS - 1 && firstEnd + (end + 1) * DAY * startSpeed <= start + wanted) {
                end++;
            }
            for (int j = end; j <= end + 1 && j < ENDINGS; j++) {
                long length = firstEnd + j * DAY * startSpeed - start;
                long off = Math.abs(length - wanted);
                if (length > 0 && (least == NONE || off < least)) {
                    least = off;
                }
            }
        }
        return least;
    }

    public int order(int i) {
        if (i < NONE) {
            return OUTSIDE;
        }
        queue.clear();
        for (int k = 0; k < CLOCKS; k++) {
            Clock told = present.toldClock(k);
            if (told != null && told.kind == GOING && told.low == told.high) {
                queue.add(k, told.low);
            }
        }
        if (queue.many < 1 || queue.many > LONGEST_ORDER) {
            return NOT;
        }
        queue.weigh();
        if (i == NONE) {
            return queue.leastError();
        }
        return i < queue.many ? queue.clockAt(i) : NONE;
    }

    public int keep(int k) {
        if (!isBelow(k, KEPT)) {
            return UNKNOWN;
        }
        kept[k].copy(present);
        kept[k].filled = true;
        return Integer.bitCount(present.toldBits());
    }

    public int back(int k) {
        if (!isBelow(k, KEPT)) {
            return UNKNOWN;
        }
        if (!kept[k].filled) {
            return NOT;
        }
        present.copy(kept[k]);
        sifted = false;
        return Integer.bitCount(present.toldBits());
    }

    public int count(int what) {
        switch (what) {
            case 0: return present.toldBits();
            case 1: return present.readBits();
            case 2: return present.notes.many;
            case 3: return text.length;
            default: return OUTSIDE;
        }
    }

    private static boolean isBelow(int value, int bound) {
        return value >= 0 && value < bound;
    }

    /** One CLOCK; a STOPPED one goes by the RATE 0 from the MINUTE 0 on, which moves it not at all. */
    private static final class Clock {
        int kind = NONE;
        int set = 0;
        int dial = 0;
        int low = 0;
        int high = 0;
        int read = NONE;

        void tell(int newKind, int newSet, int newDial, int newLow, int newHigh) {
            kind = newKind;
            set = newSet;
            dial = newDial;
            low = newLow;
            high = newHigh;
            read = NONE;
        }

        void copy(Clock other) {
            tell(other.kind, other.set, other.dial, other.low, other.high);
            read = other.read;
        }

        boolean runsByOneRate() {
            return kind != STOPPED && low == high;
        }

        /** How far the HAND goes in some minutes by a RATE. */
        int way(int minutes, int rate) {
            if (kind == STOPPED) {
                return 0;
            }
            int ahead = minutes * (DAY + rate);
            return kind == BACK ? -ahead : ahead;
        }

        int handAt(int minute, int rate) {
            return dial * DAY + way(minute - set, rate);
        }

        int dialAt(int minute, int rate) {
            return Math.floorMod(Math.floorDiv(handAt(minute, rate), DAY), DIALS);
        }

        /** Between L and H the HAND can stand anywhere between where these two put it, both with it. */
        boolean canShow(int minute, int m) {
            int byLow = handAt(minute, low);
            int byHigh = handAt(minute, high);
            int least = Math.floorDiv(Math.min(byLow, byHigh), DAY);
            int most = Math.floorDiv(Math.max(byLow, byHigh), DAY);
            return Math.floorMod(m - least, DIALS) <= most - least;
        }

        /** How many parts are left at a MINUTE, by L, until the HAND stands at a whole minute. */
        int partsToWholeMinute(int minute) {
            return Math.floorMod(-(minute - set) * (DAY + low), DAY);
        }
    }

    /** NOTES: at a MINUTE the DIAL of a CLOCK showed what it showed. */
    private static final class Notes {
        int many = 0;
        final int[] clocks = new int[NOTES];
        final int[] minutes = new int[NOTES];
        final int[] dials = new int[NOTES];

        boolean add(int clock, int minute, int dial) {
            if (many >= NOTES) {
                return false;
            }
            clocks[many] = clock;
            minutes[many] = minute;
            dials[many] = dial;
            many++;
            return true;
        }

        void copy(Notes other) {
            many = 0;
            for (int i = 0; i < other.many && i < NOTES; i++) {
                add(other.clocks[i], other.minutes[i], other.dials[i]);
            }
        }

        /** Each NOTE leaves a DAY of hands at MINUTE 0, from its own first one on: whether all of these share one. */
        boolean allow(int number, Clock clock, int rate) {
            boolean any = false;
            int base = 0;
            int least = 0;
            int most = 0;
            for (int i = 0; i < many && i < NOTES; i++) {
                if (clocks[i] != number) {
                    continue;
                }
                int first = dials[i] * DAY - clock.way(minutes[i], rate);
                if (!any) {
                    base = first;
                    any = true;
                }
                int apart = Math.floorMod(first - base + ROUND / 2, ROUND) - ROUND / 2;
                least = Math.min(least, apart);
                most = Math.max(most, apart);
            }
            return most - least < DAY;
        }
    }

    /** CLOCKS, what is READ of them, and NOTES. */
    private static final class House {
        boolean filled = false;
        final Clock[] clocks = new Clock[CLOCKS];
        final Notes notes = new Notes();

        House() {
            for (int i = 0; i < CLOCKS; i++) {
                clocks[i] = new Clock();
            }
        }

        void copy(House other) {
            for (int i = 0; i < CLOCKS; i++) {
                clocks[i].copy(other.clocks[i]);
            }
            notes.copy(other.notes);
        }

        /** The CLOCK of a number, or null if none is told. */
        Clock toldClock(int number) {
            if (!isBelow(number, CLOCKS) || clocks[number].kind == NONE) {
                return null;
            }
            return clocks[number];
        }

        int toldBits() {
            int bits = 0;
            for (int i = 0; i < CLOCKS; i++) {
                bits |= clocks[i].kind == NONE ? 0 : 1 << i;
            }
            return bits;
        }

        int readBits() {
            int bits = 0;
            for (int i = 0; i < CLOCKS; i++) {
                bits |= clocks[i].read == NONE ? 0 : 1 << i;
            }
            return bits;
        }

        int misfitsAt(int minute) {
            int bits = 0;
            for (int i = 0; i < CLOCKS; i++) {
                int read = clocks[i].read;
                if (read != NONE && !clocks[i].canShow(minute, read)) {
                    bits |= 1 << i;
                }
            }
            return bits;
        }

        /** Does a LINE of a TEXT without FAULT. */
        void heed(Text text, int line) {
            int word = text.number(line, 0);
            if (word == UNREAD) {
                readNone();
                return;
            }
            int number = text.number(line, 1);
            if (!isBelow(number, CLOCKS)) {
                return;
            }
            Clock clock = clocks[number];
            if (word == NOW) {
                clock.read = text.number(line, 2);
            } else if (word == GONE) {
                clock.tell(NONE, 0, 0, 0, 0);
            } else if (word == STOPPED) {
                clock.tell(STOPPED, 0, text.number(line, 2), 0, 0);
            } else {
                int low = text.number(line, 4) - FASTEST;
                int high = text.number(line, 5) - FASTEST;
                clock.tell(word, text.number(line, 2), text.number(line, 3), low, high);
            }
        }

        void readNone() {
            for (int i = 0; i < CLOCKS; i++) {
                clocks[i].read = NONE;
            }
        }
    }

    /** THE TEXT, and its LINES as they were when a FAULT was last looked for. */
    private static final class Text {
        static final int PLACES = 6;
        final int[] bytes = new int[BYTES];
        int length = 0;
        // A row of PLACES for each LINE: its word, then its numbers in their order.
        final int[] rows = new int[LINES * PLACES];
        int lineCount = 0;
        // The TOKEN that was taken last, from start to (without) end; both are length behind the last one.
        int start = 0;
        int end = 0;

        void put(int value) {
            if (length < BYTES) {
                bytes[length] = value;
                length++;
            }
        }

        int number(int line, int place) {
            return isBelow(line, LINES) && isBelow(place, PLACES) ? rows[line * PLACES + place] : NONE;
        }

        /** The place of the first FAULT, or NONE; told CLOCKS by bits. */
        int findFault(int told) {
            int known = told;
            end = 0;
            lineCount = 0;
            for (int line = 0; line < LINES; line++) {
                if (!takeLine(line, known)) {
                    return start;
                }
                known = knownBehind(line, known);
                lineCount = line + 1;
                takeToken();
                if (start == length) {
                    return NONE;
                }
                if (signAt(start) != ';') {
                    return start;
                }
            }
            return start;
        }

        /** Takes the TOKENS of a LINE; false, and start is at the FAULT, if one of them cannot stand there. */
        boolean takeLine(int line, int known) {
            int row = line * PLACES;
            takeToken();
            int word = wordTaken();
            if (word == NONE || !isBelow(line, LINES)) {
                return false;
            }
            rows[row] = word;
            String numbers = numbersOf(word);
            for (int i = 0; i < numbers.length() && i < PLACES - 1; i++) {
                char kind = numbers.charAt(i);
                takeToken();
                int value = numberTaken();
                int least = kind == 'H' ? rows[row + i] : 0;
                if (value < least || value > mostOf(kind)) {
                    return false;
                }
                if (word == NOW && kind == 'K' && (known >> value & 1) == 0) {
                    return false;
                }
                rows[row + i + 1] = value;
            }
            return true;
        }

        int knownBehind(int line, int known) {
            int word = number(line, 0);
            if (word == GONE) {
                return known & ~(1 << number(line, 1));
            }
            if (word == GOING || word == BACK || word == STOPPED) {
                return known | 1 << number(line, 1);
            }
            return known;
        }

        void takeToken() {
            start = end;
            while (start < length && signAt(start) == ' ') {
                start++;
            }
            end = start;
            if (isLetter(signAt(start))) {
                while (end < length && isLetter(signAt(end))) {
                    end++;
                }
            } else if (isDigit(signAt(start))) {
                while (end < length && isDigit(signAt(end))) {
                    end++;
                }
            } else if (start < length) {
                end++;
            }
        }

        /** The byte at a place; NONE behind the last. */
        int signAt(int place) {
            return place >= 0 && place < length && place < BYTES ? bytes[place] : NONE;
        }

        int wordTaken() {
            for (int word = 0; word < WORDS; word++) {
                if (isTaken(wordOf(word))) {
                    return word;
                }
            }
            return NONE;
        }

        boolean isTaken(String word) {
            if (end - start != word.length()) {
                return false;
            }
            for (int i = 0; i < word.length(); i++) {
                if (signAt(start + i) != word.charAt(i)) {
                    return false;
                }
            }
            return true;
        }

        /** The number that the TOKEN tells; NONE, if it is no number or has too many digits. */
        int numberTaken() {
            if (end - start > 4 || !isDigit(signAt(start))) {
                return NONE;
            }
            int value = 0;
            for (int i = start; i < end; i++) {
                value = value * 10 + signAt(i) - '0';
            }
            return value;
        }

        static boolean isLetter(int sign) {
            return sign >= 'a' && sign <= 'z';
        }

        static boolean isDigit(int sign) {
            return sign >= '0' && sign <= '9';
        }

        static String wordOf(int word) {
            switch (word) {
                case GOING: return "going";
                case BACK: return "back";
                case STOPPED: return "stopped";
                case GONE: return "gone";
                case NOW: return "now";
                default: return "unread";
            }
        }

        /** The numbers that stand behind a word, a letter for each, as the document names them. */
        static String numbersOf(int word) {
            switch (word) {
                case GOING:
                case BACK: return "KSALH";
                case STOPPED: return "KA";
                case GONE: return "K";
                case NOW: return "KM";
                default: return "";
            }
        }

        static int mostOf(char kind) {
            switch (kind) {
                case 'K': return CLOCKS - 1;
                case 'S': return MINUTES - 1;
                case 'A':
                case 'M': return DIALS - 1;
                default: return RATES - 1;
            }
        }
    }

    /** MINUTES (or rates) taken in rising order: how many, the first, the last, in how many runs. */
    private static final class Tally {
        int many = 0;
        int first = NONE;
        int last = NONE;
        int runs = 0;

        void clear() {
            many = 0;
            first = NONE;
            last = NONE;
            runs = 0;
        }

        void add(int value) {
            if (many == 0) {
                first = value;
            }
            if (many == 0 || last != value - 1) {
                runs++;
            }
            last = value;
            many++;
        }

        int tell(int what) {
            switch (what) {
                case 0: return many;
                case 1: return first;
                case 2: return last;
                default: return runs;
            }
        }
    }

    /** CLOCKS for AN ORDER. The error behind some of them is the same in whatever order they stood: so sets are weighed. */
    private static final class Queue {
        static final int SETS = 1 << LONGEST_ORDER;
        int many = 0;
        final int[] clocks = new int[CLOCKS];
        final int[] rates = new int[CLOCKS];
        // By the set that stands ahead: the least that the greatest error can be from there on, its own one with it.
        final int[] least = new int[SETS];

        void clear() {
            many = 0;
        }

        void add(int clock, int rate) {
            if (many < CLOCKS) {
                clocks[many] = clock;
                rates[many] = rate;
                many++;
            }
        }

        void weigh() {
            for (int set = SETS - 1; set >= 0; set--) {
                int behind = NONE;
                for (int i = 0; i < many; i++) {
                    if ((set >> i & 1) == 0 && (behind == NONE || leastBehind(set | 1 << i) < behind)) {
                        behind = leastBehind(set | 1 << i);
                    }
                }
                least[set] = Math.max(behind, errorBehind(set));
            }
        }

        int errorBehind(int set) {
            int sum = 0;
            for (int i = 0; i < many && i < CLOCKS; i++) {
                if ((set >> i & 1) == 1) {
                    sum += rates[i];
                }
            }
            return Math.abs(sum);
        }

        int leastBehind(int set) {
            return isBelow(set, SETS) ? least[set] : 0;
        }

        int leastError() {
            return least[0];
        }

        int clockAt(int place) {
            int set = 0;
            int taken = 0;
            for (int i = 0; i <= place && i < many; i++) {
                taken = firstBehind(set);
                set |= 1 << taken;
            }
            return isBelow(taken, CLOCKS) ? clocks[taken] : NONE;
        }

        /** The first by which the greatest error need not become more than the least that can be. */
        int firstBehind(int set) {
            for (int i = 0; i < many; i++) {
                if ((set >> i & 1) == 0 && leastBehind(set | 1 << i) <= least[0]) {
                    return i;
                }
            }
            return 0;
        }
    }
}
