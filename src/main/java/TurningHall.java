import java.util.Arrays;

/** A hall of turning works: README.md says how to use it, ../shared/DOC.md what it promises. */
public final class TurningHall {
    public static final int NONE = -1;

    private static final int TRUTH = 0;
    private static final int BYTE = 1;
    private static final int SHORT = 2;
    private static final int CHAR = 3;
    private static final int INT = 4;
    private static final int LONG = 5;
    private static final int FLOAT = 6;
    private static final int DOUBLE = 7;

    private static final int MOST_BYTES = 3000;
    private static final int FED_BYTES = 20;
    private static final int MOST_LETTERS = 10;
    private static final int MOST_THINGS = 40;
    private static final int MOST_BELLS = 12;
    private static final int MOST_CAMS = 8;
    private static final int MOST_TEETH = 24;
    private static final int MOST_NODES = 500;
    private static final int MOST_NEST = 40;
    private static final int MOST_TICKS = 500;
    private static final int MOST_STRIKES = 64;
    private static final int MOST_AGO = 31;
    private static final int MOST_PLACES = 4;
    private static final int MOST_POWER = 1100;
    private static final int MOST_REAL_DIGITS = 15;
    private static final int MOST_DIAL_DIGITS = 18;
    private static final int MOST_COUNT = 2147483647;

    // Rows of names: things first, then bells, then cams.
    private static final int FIRST_BELL = MOST_THINGS;
    private static final int FIRST_CAM = MOST_THINGS + MOST_BELLS;
    private static final int NAME_ROWS = FIRST_CAM + MOST_CAMS;
    private static final int MOST_FORMULAS = 2 * MOST_THINGS + MOST_BELLS;
    // A ? has three parts and two skips, && and || have two parts and one: 5 entries for 3 nodes at most.
    private static final int MOST_ENTRIES = 840;
    // Every value on a stack comes from a node of its own.
    private static final int STACK_ROWS = MOST_NODES + 12;
    // 41 levels, each with one sign at most of each of the six ranks, and the 40 that open them.
    private static final int OPEN_ROWS = 320;
    // One slot more than the ticks that are told makes it a power of two.
    private static final int PAST_SLOTS = MOST_AGO + 1;
    private static final int TEXT_ROWS = 48;

    private static final int BELLS_FROM = 100;
    private static final int CAMS_FROM = 200;
    private static final int NO_DATE = -1000000000;

    private static final int READING = 1;
    private static final int TOO_MUCH = 2;
    private static final int NAMES = 3;
    private static final int SORTS = 4;

    private static final int JAM_WHOLE = 1;
    private static final int JAM_REAL = 2;
    private static final int JAM_BEYOND = 3;
    private static final int JAM_INDEX = 4;
    private static final int JAM_ANSWER = 8;

    // Kinds of tokens; nodes of formulas bear the same numbers, and those behind the signs.
    private static final int END = 0;
    private static final int BAD = 1;
    private static final int NAME = 2;
    private static final int NUMBER = 3;

    private static final String WORDS =
            "part  show  cam   bell  then  when  old   step  ticks floor ceil  rint  abs   least most  gcd   true  false truth byte  short char  int   long  float double";
    private static final int WORD_WIDTH = 6;
    private static final int WORD_COUNT = 26;
    private static final int FIRST_WORD = 10;
    private static final int PART = 10;
    private static final int SHOW = 11;
    private static final int CAM = 12;
    private static final int BELL = 13;
    private static final int THEN = 14;
    private static final int WHEN = 15;
    private static final int OLD = 16;
    private static final int STEP = 17;
    private static final int TICKS = 18;
    private static final int FLOOR = 19;
    private static final int CEIL = 20;
    private static final int RINT = 21;
    private static final int ABS = 22;
    private static final int LEAST = 23;
    private static final int MOST = 24;
    private static final int GCD = 25;
    private static final int TRUE = 26;
    private static final int FALSE = 27;
    private static final int FIRST_SORT = 28;
    private static final int LAST_SORT = 35;

    private static final String SIGNS = ":;,=?()[]+-*/%!<>";
    private static final int FIRST_SIGN = 40;
    private static final int COLON = 40;
    private static final int SEMICOLON = 41;
    private static final int COMMA = 42;
    private static final int EQUALS = 43;
    private static final int QUESTION = 44;
    private static final int OPEN = 45;
    private static final int CLOSE = 46;
    private static final int OPEN_SQUARE = 47;
    private static final int CLOSE_SQUARE = 48;
    private static final int PLUS = 49;
    private static final int MINUS = 50;
    private static final int TIMES = 51;
    private static final int OVER = 52;
    private static final int REST = 53;
    private static final int NOT = 54;
    private static final int LESS = 55;
    private static final int GREATER = 56;
    private static final int LESS_SAME = 57;
    private static final int GREATER_SAME = 58;
    private static final int SAME = 59;
    private static final int OTHER = 60;
    private static final int AND = 61;
    private static final int OR = 62;

    private static final int THING = 63;
    private static final int INDEX = 64;
    private static final int NEGATE = 65;
    private static final int CAST = 66;
    // Entries that are no nodes: they skip parts that are not worked out.
    private static final int AND_SKIP = 67;
    private static final int OR_SKIP = 68;
    private static final int IF_SKIP = 69;
    private static final int ELSE_SKIP = 70;

    private static final int RANK_OR = 1;
    private static final int RANK_AND = 2;
    private static final int RANK_SAME = 3;
    private static final int RANK_LESS = 4;
    private static final int RANK_PLUS = 5;
    private static final int RANK_TIMES = 6;

    // Where the reading of an E stands.
    private static final int REFUSED = 0;
    private static final int FINISHED = 1;
    private static final int WANTS_PART = 2;
    private static final int HAS_PART = 3;
    private static final int BEHIND_NAME = 4;
    private static final int BEHIND_WORD = 5;
    private static final int BEHIND_OPEN = 6;
    private static final int BEHIND_SORT = 7;
    private static final int BEHIND_OLD = 8;
    private static final int WANTS_OLD_NAME = 9;
    private static final int WANTS_OLD_CLOSE = 10;

    private static final int[] DAYS_AHEAD = {0, 31, 59, 90, 120, 151, 181, 212, 243, 273, 304, 334};

    private final byte[] tape = new byte[MOST_BYTES];
    private int tapeLength = 0;
    private final Reals reals = new Reals();
    private final State now = new State();
    private final State[] kept = new State[MOST_PLACES];
    private final Machine machine = new Machine(reals, now);
    private final Page page = new Page(reals);
    private final Train latest = new Train();
    private Plan current = new Plan();
    // What is not there yet is made with its first use, so that a hall that is not asked stays small.
    private Plan spare = null;
    private Code asked = null;
    private Reader reader = null;
    private int faultKind = 0;
    private long toldBits = 0L;

    public TurningHall() {
        now.step = 1.0;
    }

    // ---- texts

    public int feed(int a, int b, int c, int d, int e) {
        if (tapeLength + FED_BYTES > MOST_BYTES) {
            return NONE;
        }
        feedOne(a);
        feedOne(b);
        feedOne(c);
        feedOne(d);
        feedOne(e);
        return tapeLength;
    }

    private void feedOne(int four) {
        for (int shift = 24; shift >= 0; shift -= 8) {
            tape[tapeLength] = (byte) (four >> shift);
            tapeLength++;
        }
    }

    public int end(int n) {
        if (n < 0 || n > tapeLength) {
            return NONE;
        }
        tapeLength = n;
        return n;
    }

    public int plan() {
        Reader tapeReader = readerOfTape();
        Plan next = spare == null ? new Plan() : spare;
        // A plan that is refused must leave the one that turns, so the other one is written.
        spare = next;
        faultKind = tapeReader.readPlan(tapeLength, next);
        tapeLength = 0;
        if (faultKind != 0) {
            return -1 - tapeReader.faultPlace;
        }
        spare = current;
        current = next;
        now.clear();
        now.planNumber++;
        machine.start(next);
        return next.things;
    }

    private Reader readerOfTape() {
        Reader made = reader;
        if (made == null) {
            made = new Reader(tape, reals, current);
            reader = made;
        }
        return made;
    }

    public int fault() {
        return faultKind;
    }

    public int count(int what) {
        switch (what) {
            case 0:
                return current.things;
            case 1:
                return current.bells;
            case 2:
                return current.cams;
            case 3:
                return current.code.nodes;
            case 4:
                return tapeLength;
            case 5:
                return now.strikes;
            case 6:
                return page.length;
            case 7:
                return latest.wheelCount;
            default:
                return NONE;
        }
    }

    public int thing(int i, int what) {
        if (i >= 0 && i < current.things) {
            switch (what) {
                case 0:
                    return current.sorts[i];
                case 1:
                    return current.parts[i] ? 1 : 0;
                default:
                    return toldOfRow(i, what);
            }
        }
        int bell = bellOf(i);
        if (bell == NONE) {
            return NONE;
        }
        return what == 6 ? now.counts[bell] : toldOfRow(FIRST_BELL + bell, what);
    }

    private int bellOf(int i) {
        return i >= BELLS_FROM && i < BELLS_FROM + current.bells ? i - BELLS_FROM : NONE;
    }

    private int toldOfRow(int row, int what) {
        switch (what) {
            case 2:
                return current.nameSize[row];
            case 3:
                return now.jams[row];
            case 4:
                return now.jamKind[row];
            case 5:
                return now.jamPlace[row];
            default:
                return NONE;
        }
    }

    public int letter(int i, int k) {
        int row = NONE;
        if (i >= 0 && i < current.things) {
            row = i;
        } else if (bellOf(i) != NONE) {
            row = FIRST_BELL + bellOf(i);
        } else if (i >= CAMS_FROM && i < CAMS_FROM + current.cams) {
            row = FIRST_CAM + (i - CAMS_FROM);
        }
        if (row == NONE || k < 0 || k >= current.nameSize[row]) {
            return NONE;
        }
        return current.names[row * MOST_LETTERS + k];
    }

    public long value(int i, int ago) {
        if (i < 0 || i >= current.things || ago < 0 || ago > MOST_AGO || ago > now.ticks) {
            return 0L;
        }
        int sort = current.sorts[i];
        if (ago == 0) {
            return reals.bitsOf(sort, now.whole[i], now.real[i]);
        }
        int row = now.pastRow(ago) + i;
        return reals.bitsOf(sort, now.pastWhole[row], now.pastReal[row]);
    }

    public boolean set(int i, long bits) {
        if (i < 0 || i >= current.things || !current.parts[i]) {
            return false;
        }
        int sort = current.sorts[i];
        if (sort == DOUBLE && !Reals.isFinite(bits) || sort == FLOAT && !Reals.isFiniteFloat(bits)) {
            return false;
        }
        now.whole[i] = Reals.wholeOf(sort, bits);
        now.real[i] = reals.realOf(sort, bits);
        now.oldWhole[i] = now.whole[i];
        now.oldReal[i] = now.real[i];
        return true;
    }

    public boolean step(long bits) {
        if (!Reals.isFinite(bits)) {
            return false;
        }
        now.step = reals.realOf(DOUBLE, bits);
        return true;
    }

    // ---- ticks

    public long tick(int n) {
        if (n < 0 || n > MOST_TICKS) {
            return NONE;
        }
        for (int k = 0; k < n; k++) {
            machine.turn(current);
        }
        return now.ticks;
    }

    public long strike(int k, int what) {
        if (k < 0 || k >= now.strikes) {
            return NONE;
        }
        int row = Math.floorMod(now.nextStrike - 1 - k, MOST_STRIKES);
        switch (what) {
            case 0:
                return now.strikeTick[row];
            case 1:
                return now.strikeBell[row];
            default:
                return NONE;
        }
    }

    public int ask() {
        Code formula = readAsked();
        if (faultKind != 0) {
            return -1 - readerOfTape().faultPlace;
        }
        if (!machine.run(current, formula, 0)) {
            return JAM_ANSWER + machine.jam;
        }
        int sort = formula.result[0];
        toldBits = reals.bitsOf(sort, machine.wholes[0], machine.doubles[0]);
        return sort;
    }

    private Code readAsked() {
        Code formula = asked;
        if (formula == null) {
            formula = new Code();
            asked = formula;
        }
        faultKind = readerOfTape().readAsked(tapeLength, current, formula);
        tapeLength = 0;
        return formula;
    }

    public long told() {
        return toldBits;
    }

    public int await(int n) {
        if (n < 0 || n > MOST_TICKS) {
            tapeLength = 0;
            return NONE;
        }
        Code formula = readAsked();
        if (faultKind == 0 && formula.result[0] != TRUTH) {
            faultKind = SORTS;
        }
        if (faultKind != 0) {
            return NONE;
        }
        for (int done = 0; done <= n; done++) {
            if (!machine.run(current, formula, 0)) {
                return -3;
            }
            if (machine.wholes[0] != 0L) {
                return done;
            }
            if (done < n) {
                machine.turn(current);
            }
        }
        return -2;
    }

    // ---- the desk

    public int dial(long bits, int digits) {
        if (!Reals.isFinite(bits) || digits < 0 || digits > MOST_DIAL_DIGITS) {
            return NONE;
        }
        page.length = 0;
        page.putReal(reals.realOf(DOUBLE, bits), digits);
        return page.length;
    }

    public int clock(long bits) {
        if (!Reals.isFinite(bits)) {
            return NONE;
        }
        double x = reals.realOf(DOUBLE, bits);
        double rest = reals.remainder(x, 86400.0);
        if (rest < 0.0) {
            rest = rest + 86400.0;
        }
        // What is a little below 0 is rounded up to a whole day.
        int seconds = rest == 86400.0 ? 0 : (int) rest;
        page.length = 0;
        page.putReal(Reals.floorOf(x / 86400.0), 0);
        page.put(' ');
        page.putTwo(seconds / 3600);
        page.put(':');
        page.putTwo(seconds / 60 % 60);
        page.put(':');
        page.putTwo(seconds % 60);
        return page.length;
    }

    public int octet(int k) {
        return k >= 0 && k < page.length ? page.bytes[k] : NONE;
    }

    public long measure(long a, long b) {
        if (!Reals.isFinite(a) || !Reals.isFinite(b)) {
            return NONE;
        }
        return reals.bits(reals.gcdOf(reals.realOf(DOUBLE, a), reals.realOf(DOUBLE, b)));
    }

    public long together(long a, long b) {
        if (!isAboveZero(a) || !isAboveZero(b)) {
            return NONE;
        }
        double first = reals.realOf(DOUBLE, a);
        double second = reals.realOf(DOUBLE, b);
        double common = reals.gcdOf(first, second);
        double meeting = first * (second / common);
        return Reals.isBeyond(meeting) ? NONE : reals.bits(meeting);
    }

    /** Of a number's BITS: those above 0 are the positive longs up to the greatest finite one. */
    private static boolean isAboveZero(long bits) {
        return bits > 0L && Reals.isFinite(bits);
    }

    public long train(long t, int stages, int low, int high) {
        if (!isAboveZero(t) || stages < 1 || stages > 2) {
            return NONE;
        }
        if (low < 4 || high < low || high > 200 || high - low > 30) {
            return NONE;
        }
        double aim = reals.realOf(DOUBLE, t);
        return reals.bits(stages == 1 ? latest.findOne(aim, low, high) : latest.findTwo(aim, low, high));
    }

    public int wheel(int k) {
        return k >= 0 && k < latest.wheelCount ? latest.wheels[k] : 0;
    }

    public int date(long bits, int what) {
        if (what < 0 || what > 4 || !Reals.isFinite(bits)) {
            return NO_DATE;
        }
        long day = (long) Reals.floorOf(reals.realOf(DOUBLE, bits));
        if (day < -100000000L || day > 100000000L) {
            return NO_DATE;
        }
        return what == 3 ? (int) Math.floorMod(day + 3L, 7L) : dateOf((int) day, what);
    }

    /** Years are counted from March here, so that a leap day is the last of its year. */
    private static int dateOf(int day, int what) {
        int fromMarch = day + 719468;
        int era = Math.floorDiv(fromMarch, 146097);
        int inEra = fromMarch - era * 146097;
        int yearInEra = (inEra - inEra / 1460 + inEra / 36524 - inEra / 146096) / 365;
        int inYear = inEra - (365 * yearInEra + yearInEra / 4 - yearInEra / 100);
        int monthFromMarch = (5 * inYear + 2) / 153;
        int dayOfMonth = inYear - (153 * monthFromMarch + 2) / 5 + 1;
        int month = monthFromMarch < 10 ? monthFromMarch + 3 : monthFromMarch - 9;
        int year = yearInEra + era * 400 + (month <= 2 ? 1 : 0);
        switch (what) {
            case 0:
                return year;
            case 1:
                return month;
            case 2:
                return dayOfMonth;
            default:
                return DAYS_AHEAD[month - 1] + dayOfMonth + (month > 2 && isLeap(year) ? 1 : 0);
        }
    }

    private static boolean isLeap(int year) {
        return year % 4 == 0 && (year % 100 != 0 || year % 400 == 0);
    }

    // ---- keeping

    public boolean keep(int place) {
        if (place < 0 || place >= MOST_PLACES) {
            return false;
        }
        State copy = kept[place];
        if (copy == null) {
            copy = new State();
            kept[place] = copy;
        }
        copy.takeOver(now);
        return true;
    }

    public boolean back(int place) {
        if (place < 0 || place >= MOST_PLACES) {
            return false;
        }
        State copy = kept[place];
        if (copy == null || copy.planNumber != now.planNumber) {
            return false;
        }
        now.takeOver(copy);
        return true;
    }

    /** Reals as numbers and as BITS, and what + - * / do not give. */
    private static final class Reals {
        private static final int LEAST_POWER = -1074;
        private static final int POWERS = 2098;
        private static final long FRACTION = (1L << 52) - 1L;
        private static final int FLOAT_FRACTION = (1 << 23) - 1;
        // m < 2^53 may be shifted so far within a long.
        private static final int SHIFT = 10;

        private final double[] twoTo = new double[POWERS];

        Reals() {
            double power = 1.0;
            for (int k = -LEAST_POWER; k < POWERS; k++) {
                twoTo[k] = power;
                power = power * 2.0;
            }
            power = 1.0;
            for (int k = -LEAST_POWER; k >= 0; k--) {
                twoTo[k] = power;
                power = power * 0.5;
            }
        }

        static boolean isFinite(long bits) {
            return (bits >>> 52 & 2047L) != 2047L;
        }

        static boolean isFiniteFloat(long bits) {
            return (bits >>> 23 & 255L) != 255L;
        }

        static boolean isBeyond(double x) {
            return x > 1.7976931348623157E308 || x < -1.7976931348623157E308;
        }

        static double sizeOf(double x) {
            // 0.0 - x makes 0 of -0, which -x would not do for 0.
            return x <= 0.0 ? 0.0 - x : x;
        }

        static boolean isNegative(double x) {
            // -0 is told from 0 by what 1 over it is.
            return x < 0.0 || x == 0.0 && 1.0 / x < 0.0;
        }

        static double floorOf(double x) {
            if (sizeOf(x) >= 4503599627370496.0 || x == 0.0) {
                return x;
            }
            double near = (double) (long) x;
            return near > x ? near - 1.0 : near;
        }

        static double ceilOf(double x) {
            return -floorOf(-x);
        }

        static double rintOf(double x) {
            double size = sizeOf(x);
            if (size >= 4503599627370496.0) {
                return x;
            }
            long below = (long) size;
            double over = size - (double) below;
            boolean up = over > 0.5 || over == 0.5 && (below & 1L) != 0L;
            double near = (double) (up ? below + 1L : below);
            return isNegative(x) ? -near : near;
        }

        static double leastOf(double x, double y) {
            return x < y || x == y && isNegative(x) ? x : y;
        }

        static double mostOf(double x, double y) {
            return x > y || x == y && isNegative(y) ? x : y;
        }

        /** x times 2 to the power, in two steps: the first is exact for all that is asked here. */
        double scaled(double x, int power) {
            int half = power / 2;
            int first = half - LEAST_POWER;
            int second = power - half - LEAST_POWER;
            if (first < 0 || second < 0 || first >= POWERS || second >= POWERS) {
                return x;
            }
            return x * twoTo[first] * twoTo[second];
        }

        /** The greatest power of 2 that a size above 0 has in it. */
        private int powerOf(double size) {
            int low = 0;
            int high = POWERS;
            for (int k = 0; k < 12 && high - low > 1; k++) {
                int middle = (low + high) >>> 1;
                if (twoTo[middle] <= size) {
                    low = middle;
                } else {
                    high = middle;
                }
            }
            return low + LEAST_POWER;
        }

        long bits(double x) {
            return packed(x, 52, 1023) | (isNegative(x) ? 1L << 63 : 0L);
        }

        /** A FLOAT's 32 bits as an int. */
        long floatBits(double x) {
            return (int) (packed(x, 23, 127) | (isNegative(x) ? 1L << 31 : 0L));
        }

        private long packed(double x, int fraction, int bias) {
            double size = sizeOf(x);
            if (size == 0.0) {
                return 0L;
            }
            int power = Math.max(powerOf(size), 1 - bias);
            long part = (long) scaled(size, fraction - power);
            // The highest bit of part, which only the small ones have not, raises the power's field by 1.
            return ((long) (power + bias - 1) << fraction) + part;
        }

        long bitsOf(int sort, long whole, double real) {
            if (sort == DOUBLE) {
                return bits(real);
            }
            return sort == FLOAT ? floatBits(real) : whole;
        }

        double realOf(int sort, long bits) {
            if (sort == DOUBLE) {
                double size = unpacked(bits & FRACTION, (int) (bits >>> 52 & 2047L), 52, 1023);
                return bits < 0L ? -size : size;
            }
            if (sort == FLOAT) {
                double size = unpacked(bits & FLOAT_FRACTION, (int) (bits >>> 23 & 255L), 23, 127);
                return (int) bits < 0 ? -size : size;
            }
            return 0.0;
        }

        private double unpacked(long part, int field, int fraction, int bias) {
            long full = field == 0 ? part : part + (1L << fraction);
            return scaled((double) full, Math.max(field, 1) - bias - fraction);
        }

        static long wholeOf(int sort, long bits) {
            switch (sort) {
                case TRUTH:
                    return bits & 1L;
                case BYTE:
                    return (byte) bits;
                case SHORT:
                    return (short) bits;
                case CHAR:
                    return (char) bits;
                case INT:
                    return (int) bits;
                default:
                    return bits;
            }
        }

        /** x less y times the whole part of x / y, worked out in wholes so that it is exact. */
        double remainder(double x, double y) {
            double size = sizeOf(x);
            double by = sizeOf(y);
            if (by == 0.0 || size < by) {
                return x;
            }
            int unit = Math.max(powerOf(by) - 52, LEAST_POWER);
            int sizeUnit = Math.max(powerOf(size) - 52, LEAST_POWER);
            long divisor = (long) scaled(by, -unit);
            if (divisor <= 0L) {
                return x;
            }
            long rest = (long) scaled(size, -sizeUnit) % divisor;
            for (int gap = sizeUnit - unit; gap > 0 && rest != 0L; gap -= SHIFT) {
                rest = (rest << Math.min(gap, SHIFT)) % divisor;
            }
            double result = scaled((double) rest, unit);
            return isNegative(x) ? -result : result;
        }

        double gcdOf(double a, double b) {
            double first = sizeOf(a);
            double second = sizeOf(b);
            // Two rounds halve what is left, and a double has 53 bits: a thousand is far above it.
            for (int k = 0; k < 1000 && second != 0.0; k++) {
                double rest = remainder(first, second);
                first = second;
                second = rest;
            }
            return first;
        }
    }

    /** The tokens of the text on the tape, one after the other. */
    private static final class Scanner {
        private final byte[] text;
        private final Reals reals;
        private int length = 0;
        private int next = 0;
        private int kind = END;
        // Where a fault of this token is told.
        private int place = 0;
        private int size = 0;
        private int sort = INT;
        private long whole = 0L;
        private double real = 0.0;
        private int digits = 0;
        private boolean tooLarge = false;

        Scanner(byte[] text, Reals reals) {
            this.text = text;
            this.reals = reals;
        }

        void begin(int textLength) {
            length = Math.min(textLength, text.length);
            next = 0;
            advance();
        }

        private int byteAt(int at) {
            return at >= 0 && at < length ? text[at] & 255 : NONE;
        }

        private static boolean isBlank(int c) {
            return c == 32 || c == 9 || c == 10;
        }

        private static boolean isLetter(int c) {
            return c >= 'a' && c <= 'z' || c >= 'A' && c <= 'Z';
        }

        private static boolean isDigit(int c) {
            return c >= '0' && c <= '9';
        }

        void advance() {
            while (next < length && isBlank(byteAt(next))) {
                next++;
            }
            place = next;
            size = 0;
            int first = byteAt(next);
            if (first == NONE) {
                kind = END;
            } else if (isLetter(first)) {
                readWord();
            } else if (isDigit(first)) {
                readNumber();
            } else {
                readSign(first);
            }
        }

        private void readWord() {
            int to = next;
            while (to < length && (isLetter(byteAt(to)) || isDigit(byteAt(to)))) {
                to++;
            }
            size = to - next;
            if (size > MOST_LETTERS) {
                kind = BAD;
                place = next + MOST_LETTERS;
            } else {
                kind = wordKind();
            }
            next = to;
        }

        private int wordKind() {
            for (int word = 0; word < WORD_COUNT && size <= WORD_WIDTH; word++) {
                int same = 0;
                for (int k = 0; k < WORD_WIDTH; k++) {
                    int due = WORDS.charAt(word * WORD_WIDTH + k);
                    same += due == (k < size ? byteAt(next + k) : ' ') ? 1 : 0;
                }
                if (same == WORD_WIDTH) {
                    return FIRST_WORD + word;
                }
            }
            return NAME;
        }

        private void readSign(int first) {
            int second = byteAt(next + 1);
            int found = SIGNS.indexOf((char) first);
            kind = found < 0 ? BAD : FIRST_SIGN + found;
            int pair = pairKind(first, second);
            if (pair != BAD) {
                kind = pair;
                next++;
            }
            next++;
        }

        private static int pairKind(int first, int second) {
            if (second == '=') {
                switch (first) {
                    case '<':
                        return LESS_SAME;
                    case '>':
                        return GREATER_SAME;
                    case '=':
                        return SAME;
                    case '!':
                        return OTHER;
                    default:
                        return BAD;
                }
            }
            if (first != second) {
                return BAD;
            }
            return first == '&' ? AND : first == '|' ? OR : BAD;
        }

        private void readNumber() {
            kind = BAD;
            whole = 0L;
            digits = 0;
            tooLarge = false;
            int at = readDigits(next);
            int behind = 0;
            if (byteAt(at) == '.') {
                int point = at;
                at = readDigits(point + 1);
                behind = at - point - 1;
                if (behind == 0) {
                    return;
                }
            }
            boolean hasPower = byteAt(at) == 'p';
            int power = 0;
            if (hasPower) {
                boolean down = byteAt(at + 1) == '-';
                int from = at + (down ? 2 : 1);
                at = from;
                while (at < length && isDigit(byteAt(at))) {
                    power = Math.min(power * 10 + byteAt(at) - '0', MOST_POWER + 1);
                    at++;
                }
                if (at == from || power > MOST_POWER) {
                    return;
                }
                power = down ? -power : power;
            }
            int tail = byteAt(at);
            if (tail == 'l' || tail == 'f') {
                at++;
            }
            int follows = byteAt(at);
            if (isLetter(follows) || isDigit(follows) || follows == '.') {
                return;
            }
            next = at;
            if (tail == 'f' || behind > 0 || hasPower) {
                settleReal(tail, behind, power);
            } else {
                settleWhole(tail);
            }
        }

        /** Puts the digits from here on behind those of whole; where they end. */
        private int readDigits(int from) {
            int at = from;
            while (at < length && isDigit(byteAt(at))) {
                int digit = byteAt(at) - '0';
                if (whole > (9223372036854775807L - digit) / 10L) {
                    tooLarge = true;
                } else {
                    whole = whole * 10L + digit;
                }
                digits++;
                at++;
            }
            return at;
        }

        private void settleWhole(int tail) {
            sort = tail == 'l' ? LONG : INT;
            real = 0.0;
            if (!tooLarge && (sort == LONG || whole <= 2147483647L)) {
                kind = NUMBER;
            }
        }

        private void settleReal(int tail, int behind, int power) {
            if (tail == 'l' || digits > MOST_REAL_DIGITS) {
                return;
            }
            double ten = 1.0;
            for (int k = 0; k < behind; k++) {
                ten = ten * 10.0;
            }
            sort = tail == 'f' ? FLOAT : DOUBLE;
            real = reals.scaled((double) whole / ten, power);
            if (sort == FLOAT) {
                real = (float) real;
            }
            whole = 0L;
            if (!Reals.isBeyond(real)) {
                kind = NUMBER;
            }
        }
    }

    /** Formulas as rows of entries, parts ahead of their sign. */
    private static final class Code {
        private final int[] op = new int[MOST_ENTRIES];
        private final int[] place = new int[MOST_ENTRIES];
        // The sort in which it is worked out (of a NUMBER its own).
        private final int[] sort = new int[MOST_ENTRIES];
        // The sorts of its parts; while a text is read, left is the size of a NAME.
        private final int[] left = new int[MOST_ENTRIES];
        private final int[] right = new int[MOST_ENTRIES];
        // The thing or cam (while a text is read where its NAME stands), or the entry to which it skips.
        private final int[] arg = new int[MOST_ENTRIES];
        private final long[] whole = new long[MOST_ENTRIES];
        private final double[] real = new double[MOST_ENTRIES];
        private int size = 0;
        private int nodes = 0;
        // What comes behind the first that is too much is read, but no more written.
        private boolean closed = false;

        private final int[] from = new int[MOST_FORMULAS];
        private final int[] to = new int[MOST_FORMULAS];
        private final int[] owner = new int[MOST_FORMULAS];
        private final int[] sign = new int[MOST_FORMULAS];
        private final int[] thingsAhead = new int[MOST_FORMULAS];
        private final int[] camsAhead = new int[MOST_FORMULAS];
        private final int[] result = new int[MOST_FORMULAS];
        private int formulas = 0;

        void clear() {
            size = 0;
            nodes = 0;
            formulas = 0;
            closed = false;
        }

        int beginOf(int formula) {
            return formula >= 0 && formula < formulas ? from[formula] : 0;
        }

        int endOf(int formula) {
            return formula >= 0 && formula < formulas ? Math.min(to[formula], size) : 0;
        }

        int add(int newOp, int newPlace) {
            if (closed || size >= MOST_ENTRIES) {
                return NONE;
            }
            int at = size;
            op[at] = newOp;
            place[at] = newPlace;
            sort[at] = TRUTH;
            left[at] = 0;
            right[at] = 0;
            arg[at] = 0;
            whole[at] = 0L;
            real[at] = 0.0;
            size++;
            return at;
        }
    }

    /** What a plan's text tells, without what its things are by now. */
    private static final class Plan {
        private final Code code = new Code();
        private final byte[] names = new byte[NAME_ROWS * MOST_LETTERS];
        private final int[] nameSize = new int[NAME_ROWS];
        private final int[] namePlace = new int[NAME_ROWS];
        private int things = 0;
        private int bells = 0;
        private int cams = 0;
        private final int[] sorts = new int[MOST_THINGS];
        private final boolean[] parts = new boolean[MOST_THINGS];
        // The formula by which a thing begins, and that by which a thing or bell turns.
        private final int[] first = new int[MOST_THINGS];
        private final int[] turning = new int[FIRST_CAM];
        // Things and bells as they stand.
        private final int[] order = new int[FIRST_CAM];
        private final double[] teeth = new double[MOST_CAMS * MOST_TEETH];
        private final int[] teethCount = new int[MOST_CAMS];

        void clear() {
            code.clear();
            things = 0;
            bells = 0;
            cams = 0;
        }

        void putName(int row, byte[] text, int place, int size) {
            int length = Math.min(size, MOST_LETTERS);
            if (place < 0 || length > text.length - place) {
                return;
            }
            System.arraycopy(text, place, names, row * MOST_LETTERS, length);
            nameSize[row] = length;
            namePlace[row] = place;
        }

        int sortOf(int thing) {
            return thing >= 0 && thing < things ? sorts[thing] : TRUTH;
        }

        /** How many rows from the first one on a NAME of a text stands; NONE when it is not among so many. */
        int find(byte[] text, int place, int size, int firstRow, int many) {
            for (int k = 0; k < many; k++) {
                if (isNamed(firstRow + k, text, place, size)) {
                    return k;
                }
            }
            return NONE;
        }

        private boolean isNamed(int row, byte[] text, int place, int size) {
            if (nameSize[row] != size || place < 0 || size > text.length - place) {
                return false;
            }
            int same = 0;
            while (same < size && names[row * MOST_LETTERS + same] == text[place + same]) {
                same++;
            }
            return same == size;
        }
    }

    /** Finds the NAMES of formulas, and those that are told twice. */
    private static final class Namer {
        private final byte[] text;
        // The first fault along the text; NONE without one.
        private int first = NONE;

        Namer(byte[] text) {
            this.text = text;
        }

        /** The place of the first fault of a plan's NAMES, its own formulas among them. */
        int firstFault(Plan plan) {
            first = NONE;
            compareAll(plan, 0, plan.things);
            compareAll(plan, FIRST_BELL, plan.bells);
            compareAll(plan, FIRST_CAM, plan.cams);
            resolve(plan, plan.code);
            return first;
        }

        int firstFaultAsked(Plan plan, Code code) {
            first = NONE;
            resolve(plan, code);
            return first;
        }

        private void refuse(int place) {
            if (first == NONE || place < first) {
                first = place;
            }
        }

        private void compareAll(Plan plan, int firstRow, int many) {
            for (int row = firstRow; row < firstRow + many; row++) {
                if (isToldAhead(plan, row, 0, plan.things)
                        || isToldAhead(plan, row, FIRST_BELL, plan.bells)
                        || isToldAhead(plan, row, FIRST_CAM, plan.cams)) {
                    refuse(plan.namePlace[row]);
                }
            }
        }

        private boolean isToldAhead(Plan plan, int row, int firstRow, int many) {
            int place = plan.namePlace[row];
            int found = plan.find(text, place, plan.nameSize[row], firstRow, many);
            return found != NONE && plan.namePlace[firstRow + found] < place;
        }

        private void resolve(Plan plan, Code code) {
            for (int formula = 0; formula < code.formulas; formula++) {
                int things = Math.min(code.thingsAhead[formula], plan.things);
                int cams = Math.min(code.camsAhead[formula], plan.cams);
                for (int at = code.beginOf(formula); at < code.endOf(formula); at++) {
                    boolean isCam = code.op[at] == INDEX;
                    if (!isCam && code.op[at] != THING && code.op[at] != OLD) {
                        continue;
                    }
                    int place = code.arg[at];
                    int found = plan.find(text, place, code.left[at], isCam ? FIRST_CAM : 0, isCam ? cams : things);
                    if (found == NONE) {
                        refuse(place);
                    } else {
                        code.arg[at] = found;
                    }
                }
            }
        }
    }

    /** Finds the sorts of formulas, and in which sort each entry is worked out. */
    private static final class Sorter {
        private final int[] stack = new int[STACK_ROWS];
        private int height = 0;

        /** The place of the first fault in the order of working out; NONE without one. */
        int firstFault(Plan plan, Code code) {
            for (int formula = 0; formula < code.formulas; formula++) {
                height = 0;
                for (int at = code.beginOf(formula); at < code.endOf(formula); at++) {
                    if (!settle(plan, code, at)) {
                        return code.place[at];
                    }
                }
                int sort = height > 0 ? stack[0] : TRUTH;
                code.result[formula] = sort;
                int owner = code.owner[formula];
                if (owner != NONE && !comesTo(sort, owner < FIRST_BELL ? plan.sorts[owner] : TRUTH)) {
                    return code.sign[formula];
                }
            }
            return NONE;
        }

        private static boolean comesTo(int sort, int to) {
            if (sort == to) {
                return true;
            }
            if (sort == TRUTH || to == TRUTH || sort > to) {
                return false;
            }
            // Of the wholes above BYTE, SHORT takes that alone, and CHAR takes none.
            return to == SHORT || to >= INT;
        }

        private static int joined(int a, int b) {
            return Math.max(INT, Math.max(a, b));
        }

        private boolean settle(Plan plan, Code code, int at) {
            switch (code.op[at]) {
                case NUMBER:
                    return give(code.sort[at]);
                case TICKS:
                    return give(LONG);
                case STEP:
                    return give(DOUBLE);
                case THING:
                case OLD:
                    return give(plan.sortOf(code.arg[at]));
                case AND_SKIP:
                case OR_SKIP:
                case IF_SKIP:
                case ELSE_SKIP:
                    return true;
                case INDEX:
                case NEGATE:
                case NOT:
                case CAST:
                case FLOOR:
                case CEIL:
                case RINT:
                case ABS:
                    return height >= 1 && settleOne(code, at);
                case QUESTION:
                    return height >= 3 && settleQuestion(code, at);
                default:
                    return height >= 2 && settleTwo(code, at);
            }
        }

        private boolean give(int sort) {
            if (height >= STACK_ROWS) {
                return false;
            }
            stack[height] = sort;
            height++;
            return true;
        }

        private boolean settleOne(Code code, int at) {
            height--;
            int part = stack[height];
            code.left[at] = part;
            switch (code.op[at]) {
                case INDEX:
                    code.sort[at] = DOUBLE;
                    return part >= BYTE && part <= INT && give(DOUBLE);
                case NOT:
                    return part == TRUTH && give(TRUTH);
                case NEGATE:
                    code.sort[at] = Math.max(INT, part);
                    return part != TRUTH && give(code.sort[at]);
                case CAST:
                    return (part == TRUTH) == (code.sort[at] == TRUTH) && give(code.sort[at]);
                default:
                    code.sort[at] = DOUBLE;
                    return part != TRUTH && give(DOUBLE);
            }
        }

        private boolean settleTwo(Code code, int at) {
            height -= 2;
            int a = stack[height];
            int b = stack[height + 1];
            code.left[at] = a;
            code.right[at] = b;
            boolean truths = a == TRUTH && b == TRUTH;
            boolean numbers = a != TRUTH && b != TRUTH;
            code.sort[at] = truths ? TRUTH : joined(a, b);
            switch (code.op[at]) {
                case AND:
                case OR:
                    return truths && give(TRUTH);
                case SAME:
                case OTHER:
                    return (truths || numbers) && give(TRUTH);
                case LESS:
                case LESS_SAME:
                case GREATER:
                case GREATER_SAME:
                    return numbers && give(TRUTH);
                case GCD:
                    code.sort[at] = DOUBLE;
                    return numbers && give(DOUBLE);
                default:
                    return numbers && give(code.sort[at]);
            }
        }

        private boolean settleQuestion(Code code, int at) {
            height -= 3;
            int a = stack[height + 1];
            int b = stack[height + 2];
            if (stack[height] != TRUTH || (a == TRUTH) != (b == TRUTH)) {
                return false;
            }
            int sort = a == TRUTH ? TRUTH : joined(a, b);
            code.right[at] = b;
            code.sort[at] = sort;
            // The first of the two parts is brought to its sort where the second is skipped.
            int skip = code.arg[at];
            if (skip >= 0 && skip < at) {
                code.left[skip] = a;
                code.sort[skip] = sort;
            }
            return give(sort);
        }
    }

    /** Reads a plan or an E from the tape, with a stack of what is open: no method calls itself. */
    private static final class Reader {
        private final byte[] text;
        private final Scanner scanner;
        private final Namer namer;
        private final Sorter sorter = new Sorter();
        private final int[] open = new int[OPEN_ROWS];
        private final int[] openPlace = new int[OPEN_ROWS];
        // A skip that still looks for its end, a cast's sort, or where a cam's NAME stands.
        private final int[] openMark = new int[OPEN_ROWS];
        // The size of a cam's NAME, or how many commas a function has had.
        private final int[] openMore = new int[OPEN_ROWS];
        private int height = 0;
        private int nest = 0;
        private boolean taken = true;
        private int heldOp = 0;
        private int heldPlace = 0;
        private int heldSize = 0;
        private Plan plan;
        private Code code;
        private int tooMuch = NONE;
        private int faultPlace = NONE;

        Reader(byte[] text, Reals reals, Plan plan) {
            this.text = text;
            this.plan = plan;
            code = plan.code;
            scanner = new Scanner(text, reals);
            namer = new Namer(text);
        }

        /** The kind of the fault (its place is in faultPlace); 0 without one. */
        int readPlan(int length, Plan target) {
            target.clear();
            begin(target, target.code);
            scanner.begin(length);
            boolean goesOn = true;
            for (int k = 0; k <= MOST_BYTES && goesOn && scanner.kind != END; k++) {
                switch (scanner.kind) {
                    case PART:
                    case SHOW:
                        goesOn = readThing(scanner.kind == PART);
                        break;
                    case CAM:
                        goesOn = readCam();
                        break;
                    case BELL:
                        goesOn = readBell();
                        break;
                    default:
                        goesOn = false;
                }
            }
            if (!goesOn) {
                return refuse(READING, scanner.place);
            }
            return settle(tooMuch == NONE ? namer.firstFault(target) : NONE);
        }

        int readAsked(int length, Plan known, Code target) {
            target.clear();
            begin(known, target);
            scanner.begin(length);
            if (!readFormula(NONE, 0, MOST_THINGS, MOST_CAMS) || scanner.kind != END) {
                return refuse(READING, scanner.place);
            }
            return settle(tooMuch == NONE ? namer.firstFaultAsked(known, target) : NONE);
        }

        private void begin(Plan newPlan, Code newCode) {
            plan = newPlan;
            code = newCode;
            tooMuch = NONE;
            faultPlace = NONE;
        }

        private int refuse(int kind, int place) {
            faultPlace = place;
            return kind;
        }

        private int settle(int nameFault) {
            if (tooMuch != NONE) {
                return refuse(TOO_MUCH, tooMuch);
            }
            if (nameFault != NONE) {
                return refuse(NAMES, nameFault);
            }
            int place = sorter.firstFault(plan, code);
            return place != NONE ? refuse(SORTS, place) : 0;
        }

        /** Tokens come in their order, so the first that is too much stands. */
        private void noteTooMuch(int place) {
            if (tooMuch == NONE) {
                tooMuch = place;
                code.closed = true;
            }
        }

        private boolean expect(int kind) {
            if (scanner.kind != kind) {
                return false;
            }
            scanner.advance();
            return true;
        }

        /** Tells the NAME that stands now; its number among its like, NONE when it is one too many. */
        private int tell(int firstRow, int many, int most) {
            int number = many < most ? many : NONE;
            if (number == NONE) {
                noteTooMuch(scanner.place);
            } else {
                plan.putName(firstRow + number, text, scanner.place, scanner.size);
            }
            scanner.advance();
            return number;
        }

        private boolean readThing(boolean isPart) {
            scanner.advance();
            if (scanner.kind != NAME) {
                return false;
            }
            int camsAhead = plan.cams;
            int thing = tell(0, plan.things, MOST_THINGS);
            if (!expect(COLON) || scanner.kind < FIRST_SORT || scanner.kind > LAST_SORT) {
                return false;
            }
            int sort = scanner.kind - FIRST_SORT;
            scanner.advance();
            int sign = scanner.place;
            int begins = code.formulas;
            if (!expect(EQUALS) || !readFormula(thing, sign, thing, camsAhead)) {
                return false;
            }
            int turns = begins;
            if (isPart) {
                sign = scanner.place;
                turns = code.formulas;
                if (!expect(THEN) || !readFormula(thing, sign, MOST_THINGS, MOST_CAMS)) {
                    return false;
                }
            }
            if (thing != NONE) {
                plan.order[plan.things + plan.bells] = thing;
                plan.sorts[thing] = sort;
                plan.parts[thing] = isPart;
                plan.first[thing] = begins;
                plan.turning[thing] = turns;
                plan.things++;
            }
            return expect(SEMICOLON);
        }

        private boolean readBell() {
            scanner.advance();
            if (scanner.kind != NAME) {
                return false;
            }
            int bell = tell(FIRST_BELL, plan.bells, MOST_BELLS);
            int row = bell == NONE ? NONE : FIRST_BELL + bell;
            int sign = scanner.place;
            int turns = code.formulas;
            if (!expect(WHEN) || !readFormula(row, sign, MOST_THINGS, MOST_CAMS)) {
                return false;
            }
            if (row != NONE) {
                plan.order[plan.things + plan.bells] = row;
                plan.turning[row] = turns;
                plan.bells++;
            }
            return expect(SEMICOLON);
        }

        private boolean readCam() {
            scanner.advance();
            if (scanner.kind != NAME) {
                return false;
            }
            int cam = tell(FIRST_CAM, plan.cams, MOST_CAMS);
            if (!expect(EQUALS)) {
                return false;
            }
            boolean more = true;
            for (int k = 0; k <= MOST_BYTES && more; k++) {
                boolean minus = scanner.kind == MINUS;
                if (minus) {
                    scanner.advance();
                }
                if (scanner.kind != NUMBER) {
                    return false;
                }
                if (k >= MOST_TEETH) {
                    noteTooMuch(scanner.place);
                } else if (cam != NONE) {
                    double tooth = scanner.sort >= FLOAT ? scanner.real : (double) scanner.whole;
                    plan.teeth[cam * MOST_TEETH + k] = minus ? -tooth : tooth;
                    plan.teethCount[cam] = k + 1;
                }
                scanner.advance();
                more = expect(COMMA);
            }
            plan.cams += cam == NONE ? 0 : 1;
            return expect(SEMICOLON);
        }

        /** Reads an E, token by token; false when the one that stands now goes on with none. */
        private boolean readFormula(int owner, int sign, int thingsAhead, int camsAhead) {
            int from = code.size;
            height = 0;
            nest = 0;
            int stand = WANTS_PART;
            // A token may be looked at twice: behind a NAME or a ( , and by the sign that comes.
            for (int k = 0; k <= 3 * MOST_BYTES && stand > FINISHED; k++) {
                taken = true;
                if (stand == HAS_PART) {
                    stand = readSign();
                } else {
                    stand = stand == WANTS_PART ? readPart() : readBehind(stand);
                }
                if (taken && stand > FINISHED) {
                    scanner.advance();
                }
            }
            int formula = code.formulas;
            if (!code.closed && formula < MOST_FORMULAS) {
                code.from[formula] = from;
                code.to[formula] = code.size;
                code.owner[formula] = owner;
                code.sign[formula] = sign;
                code.thingsAhead[formula] = thingsAhead;
                code.camsAhead[formula] = camsAhead;
                code.formulas++;
            }
            return stand == FINISHED;
        }

        private void countNode(int place) {
            code.nodes++;
            if (code.nodes > MOST_NODES) {
                noteTooMuch(place);
            }
        }

        private void addNamed(int op, int place, int namePlace, int nameSize) {
            int at = code.add(op, place);
            if (at != NONE) {
                code.arg[at] = namePlace;
                code.left[at] = nameSize;
            }
        }

        private void skipTo(int skip, int at) {
            if (skip != NONE && at != NONE) {
                code.arg[skip] = at;
            }
        }

        private int push(int op, int place, int mark, int more) {
            if (height >= OPEN_ROWS) {
                return REFUSED;
            }
            open[height] = op;
            openPlace[height] = place;
            openMark[height] = mark;
            openMore[height] = more;
            height++;
            return WANTS_PART;
        }

        /** Like push, for what counts as being around others. */
        private int enter(int op, int place, int mark, int more) {
            if (nest >= MOST_NEST) {
                return REFUSED;
            }
            nest++;
            return push(op, place, mark, more);
        }

        private int readPart() {
            int kind = scanner.kind;
            heldOp = kind;
            heldPlace = scanner.place;
            heldSize = scanner.size;
            switch (kind) {
                case NUMBER:
                case TRUE:
                case FALSE:
                case TICKS:
                case STEP:
                    return readLeaf(kind);
                case NAME:
                    countNode(heldPlace);
                    return BEHIND_NAME;
                case OLD:
                    countNode(heldPlace);
                    return BEHIND_OLD;
                case FLOOR:
                case CEIL:
                case RINT:
                case ABS:
                case LEAST:
                case MOST:
                case GCD:
                    countNode(heldPlace);
                    return BEHIND_WORD;
                case MINUS:
                case NOT:
                    countNode(heldPlace);
                    return enter(kind == MINUS ? NEGATE : NOT, heldPlace, NONE, 0);
                case OPEN:
                    return nest >= MOST_NEST ? REFUSED : BEHIND_OPEN;
                default:
                    return REFUSED;
            }
        }

        private int readLeaf(int kind) {
            countNode(scanner.place);
            boolean isWord = kind == TRUE || kind == FALSE;
            int at = code.add(isWord ? NUMBER : kind, scanner.place);
            if (at != NONE && isWord) {
                code.sort[at] = TRUTH;
                code.whole[at] = kind == TRUE ? 1L : 0L;
            } else if (at != NONE && kind == NUMBER) {
                code.sort[at] = scanner.sort;
                code.whole[at] = scanner.whole;
                code.real[at] = scanner.real;
            }
            return HAS_PART;
        }

        /** Goes on behind the beginning of a part that has more than one token. */
        private int readBehind(int stand) {
            int kind = scanner.kind;
            switch (stand) {
                case BEHIND_NAME:
                    if (kind == OPEN_SQUARE) {
                        return enter(INDEX, scanner.place, heldPlace, heldSize);
                    }
                    taken = false;
                    addNamed(THING, heldPlace, heldPlace, heldSize);
                    return HAS_PART;
                case BEHIND_WORD:
                    return kind == OPEN ? enter(heldOp, heldPlace, NONE, 0) : REFUSED;
                case BEHIND_OPEN:
                    if (kind < FIRST_SORT || kind > LAST_SORT) {
                        taken = false;
                        return enter(OPEN, heldPlace, NONE, 0);
                    }
                    countNode(heldPlace);
                    heldOp = kind;
                    return BEHIND_SORT;
                case BEHIND_SORT:
                    return kind == CLOSE ? enter(CAST, heldPlace, heldOp - FIRST_SORT, 0) : REFUSED;
                case BEHIND_OLD:
                    return kind == OPEN && nest < MOST_NEST ? WANTS_OLD_NAME : REFUSED;
                case WANTS_OLD_NAME:
                    heldPlace = scanner.place;
                    heldSize = scanner.size;
                    return kind == NAME ? WANTS_OLD_CLOSE : REFUSED;
                default:
                    if (kind != CLOSE) {
                        return REFUSED;
                    }
                    addNamed(OLD, heldPlace, heldPlace, heldSize);
                    return HAS_PART;
            }
        }

        private static int rankOf(int kind) {
            switch (kind) {
                case OR:
                    return RANK_OR;
                case AND:
                    return RANK_AND;
                case SAME:
                case OTHER:
                    return RANK_SAME;
                case LESS:
                case LESS_SAME:
                case GREATER:
                case GREATER_SAME:
                    return RANK_LESS;
                case PLUS:
                case MINUS:
                    return RANK_PLUS;
                case TIMES:
                case OVER:
                case REST:
                    return RANK_TIMES;
                default:
                    return 0;
            }
        }

        /** Goes on behind a whole part: by a sign of two parts, or to the end of what is open. */
        private int readSign() {
            int kind = scanner.kind;
            int rank = rankOf(kind);
            if (rank > 0) {
                closeParts(rank, false);
                return readJoining(kind, rank);
            }
            closeParts(0, kind != QUESTION);
            if (kind == QUESTION) {
                return readQuestion();
            }
            if (height == 0) {
                return FINISHED;
            }
            int top = open[height - 1];
            switch (kind) {
                case COLON:
                    return top == QUESTION ? readElse() : REFUSED;
                case COMMA:
                    return readComma(top);
                case CLOSE:
                    return closeRound(top);
                case CLOSE_SQUARE:
                    return closeSquare(top);
                default:
                    return REFUSED;
            }
        }

        /** Writes what ends ahead of a sign of this rank; behind the last E of a ? that, too. */
        private void closeParts(int rank, boolean elseToo) {
            boolean closes = true;
            for (int k = 0; k < OPEN_ROWS && closes && height > 0; k++) {
                int top = open[height - 1];
                int topRank = rankOf(top);
                boolean isAhead = top == NEGATE || top == NOT || top == CAST;
                boolean isElse = top == ELSE_SKIP;
                boolean again = topRank == rank && rank != RANK_SAME && rank != RANK_LESS;
                closes = isAhead || isElse && elseToo || topRank > rank || again && rank > 0;
                if (closes) {
                    nest -= isAhead || isElse ? 1 : 0;
                    height--;
                    writeTop(top);
                }
            }
        }

        private void writeTop(int top) {
            int mark = openMark[height];
            int at = code.add(top == ELSE_SKIP ? QUESTION : top, openPlace[height]);
            if (at == NONE) {
                return;
            }
            if (top == CAST) {
                code.sort[at] = mark;
            } else if (top == ELSE_SKIP) {
                code.arg[at] = mark;
                skipTo(mark, at);
            } else if (top == AND || top == OR) {
                skipTo(mark, at);
            }
        }

        private int readJoining(int kind, int rank) {
            // Of == and of < there is one alone: a second one of its rank goes on with nothing.
            if (height > 0 && rankOf(open[height - 1]) == rank) {
                return REFUSED;
            }
            countNode(scanner.place);
            int mark = NONE;
            if (kind == AND || kind == OR) {
                mark = code.add(kind == AND ? AND_SKIP : OR_SKIP, scanner.place);
            }
            return push(kind, scanner.place, mark, 0);
        }

        private int readQuestion() {
            if (nest >= MOST_NEST) {
                return REFUSED;
            }
            countNode(scanner.place);
            return enter(QUESTION, scanner.place, code.add(IF_SKIP, scanner.place), 0);
        }

        private int readElse() {
            int top = height - 1;
            if (top < 0) {
                return REFUSED;
            }
            int skip = code.add(ELSE_SKIP, openPlace[top]);
            skipTo(openMark[top], skip);
            open[top] = ELSE_SKIP;
            openMark[top] = skip;
            return WANTS_PART;
        }

        private static boolean hasTwo(int function) {
            return function == LEAST || function == MOST || function == GCD;
        }

        private int readComma(int top) {
            if (!hasTwo(top) || openMore[height - 1] != 0) {
                return REFUSED;
            }
            openMore[height - 1] = 1;
            return WANTS_PART;
        }

        private int closeRound(int top) {
            boolean isFunction = top >= FLOOR && top <= GCD;
            if (top != OPEN && !isFunction || hasTwo(top) && openMore[height - 1] == 0) {
                return REFUSED;
            }
            height--;
            nest--;
            if (isFunction) {
                code.add(top, openPlace[height]);
            }
            return HAS_PART;
        }

        private int closeSquare(int top) {
            if (top != INDEX) {
                return REFUSED;
            }
            height--;
            nest--;
            addNamed(INDEX, openPlace[height], openMark[height], openMore[height]);
            return HAS_PART;
        }
    }

    /** What things, bells and ticks are by now, or were when they were kept. */
    private static final class State {
        // Of a thing either the whole or the real counts, by its sort.
        private final long[] whole = new long[MOST_THINGS];
        private final double[] real = new double[MOST_THINGS];
        private final long[] oldWhole = new long[MOST_THINGS];
        private final double[] oldReal = new double[MOST_THINGS];
        private final long[] pastWhole = new long[PAST_SLOTS * MOST_THINGS];
        private final double[] pastReal = new double[PAST_SLOTS * MOST_THINGS];
        private final int[] jams = new int[FIRST_CAM];
        private final int[] jamKind = new int[FIRST_CAM];
        private final int[] jamPlace = new int[FIRST_CAM];
        private final int[] counts = new int[MOST_BELLS];
        private final long[] strikeTick = new long[MOST_STRIKES];
        private final int[] strikeBell = new int[MOST_STRIKES];
        // How many are kept, and the row of the one to come.
        private int strikes = 0;
        private int nextStrike = 0;
        private long ticks = 0L;
        private double step = 0.0;
        private int planNumber = 0;

        /** As a new plan wants it; what is past is not told while there were no ticks. */
        void clear() {
            Arrays.fill(whole, 0L);
            Arrays.fill(real, 0.0);
            Arrays.fill(oldWhole, 0L);
            Arrays.fill(oldReal, 0.0);
            Arrays.fill(jams, 0);
            Arrays.fill(jamKind, 0);
            Arrays.fill(jamPlace, NONE);
            Arrays.fill(counts, 0);
            strikes = 0;
            nextStrike = 0;
            ticks = 0L;
        }

        void takeOver(State other) {
            System.arraycopy(other.whole, 0, whole, 0, MOST_THINGS);
            System.arraycopy(other.real, 0, real, 0, MOST_THINGS);
            System.arraycopy(other.oldWhole, 0, oldWhole, 0, MOST_THINGS);
            System.arraycopy(other.oldReal, 0, oldReal, 0, MOST_THINGS);
            System.arraycopy(other.pastWhole, 0, pastWhole, 0, PAST_SLOTS * MOST_THINGS);
            System.arraycopy(other.pastReal, 0, pastReal, 0, PAST_SLOTS * MOST_THINGS);
            System.arraycopy(other.jams, 0, jams, 0, FIRST_CAM);
            System.arraycopy(other.jamKind, 0, jamKind, 0, FIRST_CAM);
            System.arraycopy(other.jamPlace, 0, jamPlace, 0, FIRST_CAM);
            System.arraycopy(other.counts, 0, counts, 0, MOST_BELLS);
            System.arraycopy(other.strikeTick, 0, strikeTick, 0, MOST_STRIKES);
            System.arraycopy(other.strikeBell, 0, strikeBell, 0, MOST_STRIKES);
            strikes = other.strikes;
            nextStrike = other.nextStrike;
            ticks = other.ticks;
            step = other.step;
            planNumber = other.planNumber;
        }

        /** The row of thing 0 ahead of the latest tick (ago 1), of the one before (2), and so on. */
        int pastRow(int ago) {
            return (int) (ticks - ago & PAST_SLOTS - 1) * MOST_THINGS;
        }

        void beginTick() {
            ticks++;
            int row = pastRow(1);
            System.arraycopy(whole, 0, pastWhole, row, MOST_THINGS);
            System.arraycopy(real, 0, pastReal, row, MOST_THINGS);
            System.arraycopy(whole, 0, oldWhole, 0, MOST_THINGS);
            System.arraycopy(real, 0, oldReal, 0, MOST_THINGS);
        }

        void noteJam(int row, int kind, int place) {
            jams[row] = jams[row] < MOST_COUNT ? jams[row] + 1 : MOST_COUNT;
            jamKind[row] = kind;
            jamPlace[row] = place;
        }

        void noteStrike(int bell) {
            counts[bell] = counts[bell] < MOST_COUNT ? counts[bell] + 1 : MOST_COUNT;
            strikeTick[nextStrike] = ticks;
            strikeBell[nextStrike] = bell;
            nextStrike = (nextStrike + 1) % MOST_STRIKES;
            strikes = Math.min(strikes + 1, MOST_STRIKES);
        }
    }

    /** Works formulas out, by two stacks side by side: of wholes and truths, and of reals. */
    private static final class Machine {
        private final Reals reals;
        private final State now;
        private final long[] wholes = new long[STACK_ROWS];
        private final double[] doubles = new double[STACK_ROWS];
        private int height = 0;
        private int jam = 0;
        private int jamPlace = NONE;

        Machine(Reals reals, State now) {
            this.reals = reals;
            this.now = now;
        }

        /** Every thing of a new plan becomes what it begins with. */
        void start(Plan plan) {
            for (int thing = 0; thing < plan.things; thing++) {
                int formula = plan.first[thing];
                if (run(plan, plan.code, formula)) {
                    store(thing, plan.code.result[formula], plan.sorts[thing]);
                } else {
                    now.noteJam(thing, jam, jamPlace);
                }
                now.oldWhole[thing] = now.whole[thing];
                now.oldReal[thing] = now.real[thing];
            }
        }

        /** One TICK. */
        void turn(Plan plan) {
            now.beginTick();
            int rows = plan.things + plan.bells;
            for (int k = 0; k < rows; k++) {
                int row = plan.order[k];
                int formula = plan.turning[row];
                if (!run(plan, plan.code, formula)) {
                    now.noteJam(row, jam, jamPlace);
                } else if (row < FIRST_BELL) {
                    store(row, plan.code.result[formula], plan.sorts[row]);
                } else if (wholes[0] != 0L) {
                    now.noteStrike(row - FIRST_BELL);
                }
            }
        }

        private void store(int thing, int sort, int to) {
            become(0, sort, to);
            now.whole[thing] = wholes[0];
            now.real[thing] = doubles[0];
        }

        /** What comes is the lowest value on the stacks; false when it jams. */
        boolean run(Plan plan, Code code, int formula) {
            height = 0;
            jam = 0;
            int at = code.beginOf(formula);
            int to = code.endOf(formula);
            for (int k = 0; k < MOST_ENTRIES && at < to && jam == 0; k++) {
                int op = code.op[at];
                int last = at;
                jamPlace = code.place[at];
                switch (op) {
                    case NUMBER:
                        push(code.whole[at], code.real[at]);
                        break;
                    case TICKS:
                        push(now.ticks, 0.0);
                        break;
                    case STEP:
                        push(0L, now.step);
                        break;
                    case THING:
                    case OLD:
                        pushThing(code.arg[at], op == OLD);
                        break;
                    case AND_SKIP:
                    case OR_SKIP:
                    case IF_SKIP:
                    case ELSE_SKIP:
                        last = skip(code, at, op);
                        break;
                    case QUESTION:
                        become(height - 1, code.right[at], code.sort[at]);
                        break;
                    case AND:
                    case OR:
                        break;
                    case INDEX:
                        takeTooth(plan, code.arg[at]);
                        break;
                    case NEGATE:
                    case NOT:
                    case CAST:
                    case FLOOR:
                    case CEIL:
                    case RINT:
                    case ABS:
                        workOne(op, code.left[at], code.sort[at]);
                        break;
                    default:
                        workTwo(op, code.left[at], code.right[at], code.sort[at]);
                }
                at = last + 1;
            }
            return jam == 0;
        }

        private void push(long whole, double real) {
            if (height < STACK_ROWS) {
                wholes[height] = whole;
                doubles[height] = real;
                height++;
            }
        }

        private void pushThing(int thing, boolean old) {
            if (thing < 0 || thing >= MOST_THINGS) {
                return;
            }
            if (old) {
                push(now.oldWhole[thing], now.oldReal[thing]);
            } else {
                push(now.whole[thing], now.real[thing]);
            }
        }

        /** The entry behind which it goes on: never one ahead of this. */
        private int skip(Code code, int at, int op) {
            int top = height - 1;
            if (top < 0) {
                return at;
            }
            if (op == ELSE_SKIP) {
                become(top, code.left[at], code.sort[at]);
                return Math.max(at, code.arg[at]);
            }
            boolean isTrue = wholes[top] != 0L;
            boolean skips = isTrue == (op == OR_SKIP);
            // What && and || skip behind is their value; the truth ahead of ? is none.
            if (!skips || op == IF_SKIP) {
                height--;
            }
            return skips ? Math.max(at, code.arg[at]) : at;
        }

        private void takeTooth(Plan plan, int cam) {
            int top = height - 1;
            if (top < 0 || cam < 0 || cam >= plan.cams) {
                return;
            }
            long index = wholes[top];
            if (index < 0L || index >= plan.teethCount[cam]) {
                jam = JAM_INDEX;
            } else {
                doubles[top] = plan.teeth[cam * MOST_TEETH + (int) index];
            }
        }

        /** The value in a row of the stacks becomes of another sort. */
        private void become(int row, int sort, int to) {
            if (row < 0 || sort == to) {
                return;
            }
            if (to == FLOAT && sort == DOUBLE) {
                doubles[row] = (float) doubles[row];
                jam = Reals.isBeyond(doubles[row]) ? JAM_BEYOND : 0;
            } else if (to == FLOAT) {
                doubles[row] = (float) wholes[row];
            } else if (to == DOUBLE) {
                doubles[row] = sort == FLOAT ? doubles[row] : (double) wholes[row];
            } else if (sort < FLOAT) {
                wholes[row] = Reals.wholeOf(to, wholes[row]);
            } else if (to == LONG) {
                wholes[row] = (long) doubles[row];
            } else {
                wholes[row] = Reals.wholeOf(to, (int) doubles[row]);
            }
        }

        private void workOne(int op, int sort, int to) {
            int top = height - 1;
            if (top < 0) {
                return;
            }
            if (op == NOT) {
                wholes[top] = 1L - wholes[top];
                return;
            }
            become(top, sort, to);
            double x = doubles[top];
            switch (op) {
                case NEGATE:
                    doubles[top] = -x;
                    wholes[top] = to == INT ? (int) -wholes[top] : -wholes[top];
                    break;
                case FLOOR:
                    doubles[top] = Reals.floorOf(x);
                    break;
                case CEIL:
                    doubles[top] = Reals.ceilOf(x);
                    break;
                case RINT:
                    doubles[top] = Reals.rintOf(x);
                    break;
                case ABS:
                    doubles[top] = Reals.sizeOf(x);
                    break;
                default:
                    break;
            }
        }

        private void workTwo(int op, int left, int right, int sort) {
            int a = height - 2;
            if (a < 0) {
                return;
            }
            int b = height - 1;
            become(a, left, sort);
            become(b, right, sort);
            height--;
            boolean isReal = sort >= FLOAT;
            if (op >= LESS && op <= OTHER) {
                int order = isReal ? orderOf(doubles[a], doubles[b]) : Long.compare(wholes[a], wholes[b]);
                wholes[a] = holds(op, order) ? 1L : 0L;
            } else if (isReal) {
                doubles[a] = workReals(op, sort, doubles[a], doubles[b]);
            } else {
                long result = workWholes(op, wholes[a], wholes[b]);
                wholes[a] = sort == INT ? (int) result : result;
            }
        }

        private static int orderOf(double x, double y) {
            return x < y ? -1 : x > y ? 1 : 0;
        }

        private static boolean holds(int op, int order) {
            switch (op) {
                case LESS:
                    return order < 0;
                case LESS_SAME:
                    return order <= 0;
                case GREATER:
                    return order > 0;
                case GREATER_SAME:
                    return order >= 0;
                case SAME:
                    return order == 0;
                default:
                    return order != 0;
            }
        }

        private long workWholes(int op, long x, long y) {
            if ((op == OVER || op == REST) && y == 0L) {
                jam = JAM_WHOLE;
                return 0L;
            }
            switch (op) {
                case PLUS:
                    return x + y;
                case MINUS:
                    return x - y;
                case TIMES:
                    return x * y;
                case OVER:
                    return x / y;
                case REST:
                    return x % y;
                case LEAST:
                    return Math.min(x, y);
                default:
                    return Math.max(x, y);
            }
        }

        private double workReals(int op, int sort, double x, double y) {
            if ((op == OVER || op == REST) && y == 0.0) {
                jam = JAM_REAL;
                return 0.0;
            }
            switch (op) {
                case REST:
                    return reals.remainder(x, y);
                case LEAST:
                    return Reals.leastOf(x, y);
                case MOST:
                    return Reals.mostOf(x, y);
                case GCD:
                    return reals.gcdOf(x, y);
                default:
                    break;
            }
            double result = sort == FLOAT ? ofFloats(op, (float) x, (float) y) : ofDoubles(op, x, y);
            if (Reals.isBeyond(result)) {
                jam = JAM_BEYOND;
            }
            return result;
        }

        private static double ofDoubles(int op, double x, double y) {
            switch (op) {
                case PLUS:
                    return x + y;
                case MINUS:
                    return x - y;
                case TIMES:
                    return x * y;
                default:
                    return x / y;
            }
        }

        /** In floats themselves, so that what comes is rounded once. */
        private static float ofFloats(int op, float x, float y) {
            switch (op) {
                case PLUS:
                    return x + y;
                case MINUS:
                    return x - y;
                case TIMES:
                    return x * y;
                default:
                    return x / y;
            }
        }
    }

    /** The TEXT that dials write. */
    private static final class Page {
        private final Reals reals;
        private final byte[] bytes = new byte[TEXT_ROWS];
        private int length = 0;

        Page(Reals reals) {
            this.reals = reals;
        }

        void put(int c) {
            if (length < TEXT_ROWS) {
                bytes[length] = (byte) c;
                length++;
            }
        }

        void putTwo(int number) {
            put('0' + number / 10);
            put('0' + number % 10);
        }

        void putReal(double x, int digits) {
            if (x < 0.0) {
                put('-');
            }
            double size = Reals.sizeOf(x);
            putWhole((long) size);
            if (digits > 0) {
                put('.');
            }
            double rest = reals.remainder(size, 1.0);
            for (int k = 0; k < digits; k++) {
                rest = rest * 10.0;
                int digit = (int) rest;
                put('0' + digit);
                rest = rest - (double) digit;
            }
        }

        private void putWhole(long number) {
            long unit = 1L;
            for (int k = 0; k < 18 && unit <= number / 10L; k++) {
                unit = unit * 10L;
            }
            for (long left = unit; left > 0L; left /= 10L) {
                put('0' + (int) (number / left % 10L));
            }
        }
    }

    /** The latest train of wheels. */
    private static final class Train {
        private final int[] wheels = new int[4];
        private int wheelCount = 0;

        private static double distance(double v, double aim) {
            double far = v - aim;
            return far < 0.0 ? -far : far;
        }

        private static double quotient(int n, int m) {
            return m == 0 ? 0.0 : (double) n / (double) m;
        }

        double findOne(double aim, int low, int high) {
            wheelCount = 2;
            return findPair(1.0, aim, low, high, 0);
        }

        /** How far the nearest pair behind a first quotient is; the first such goes into the wheels. */
        private double findPair(double first, double aim, int low, int high, int row) {
            double best = -1.0;
            for (int n = low; n <= high; n++) {
                for (int m = low; m <= high; m++) {
                    double far = distance(first * quotient(n, m), aim);
                    if (best < 0.0 || far < best) {
                        best = far;
                        wheels[row] = n;
                        wheels[row + 1] = m;
                    }
                }
            }
            return best;
        }

        double findTwo(double aim, int low, int high) {
            double best = -1.0;
            for (int n = low; n <= high; n++) {
                for (int m = low; m <= high; m++) {
                    double far = nearest(quotient(n, m), aim, low, high);
                    if (best < 0.0 || far < best) {
                        best = far;
                        wheels[0] = n;
                        wheels[1] = m;
                    }
                }
            }
            wheelCount = 4;
            return findPair(quotient(wheels[0], wheels[1]), aim, low, high, 2);
        }

        /**
         * How far the nearest pair behind a first quotient is. The value grows with n and falls with m, and
         * so it does when it is rounded: a walk along the aim meets a nearest one, in far fewer steps than
         * all pairs would take.
         */
        private static double nearest(double first, double aim, int low, int high) {
            int n = low;
            int m = low;
            double best = -1.0;
            while (n <= high && m <= high) {
                double v = first * quotient(n, m);
                double far = distance(v, aim);
                if (best < 0.0 || far < best) {
                    best = far;
                }
                if (v > aim) {
                    m++;
                } else {
                    n++;
                }
            }
            return best;
        }
    }
}
