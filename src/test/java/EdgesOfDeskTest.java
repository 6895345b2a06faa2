import java.util.function.Supplier;

/** Each sentence of promises 17 to 26 (the desk, keeping), at its bounds. */
public final class EdgesOfDeskTest {
    private static final double[] ENDLESS = {Double.NaN, Double.POSITIVE_INFINITY, Double.NEGATIVE_INFINITY};
    private static final int[] FAR = {Integer.MAX_VALUE, Integer.MIN_VALUE};
    private static final Halls HALLS = new Halls();

    private static void dial(double x, int digits, String due) {
        TurningHall hall = HALLS.of(64);
        Check.due("dial " + x + " " + digits, hall.dial(Check.bits(x), digits), due.length());
        Check.due("count(6) of dial " + x + " " + digits, hall.count(6), due.length());
        Check.due("TEXT of dial " + x + " " + digits, Check.text(hall), due);
    }

    private static void clock(double x, String due) {
        TurningHall hall = HALLS.of(64);
        Check.due("clock " + x, hall.clock(Check.bits(x)), due.length());
        Check.due("count(6) of clock " + x, hall.count(6), due.length());
        Check.due("TEXT of clock " + x, Check.text(hall), due);
    }

    private static void signs() {
        Check.sentence("TEXT becomes a DOUBLE (by its BITS) in digits: - if it is below 0 (not of -0);");
        dial(0.0, 0, "0");
        dial(-0.0, 0, "0");
        dial(-0.0, 3, "0.000");
        dial(-1, 0, "-1");
        dial(1, 0, "1");
        dial(-0.25, 0, "-0");
        dial(-0.25, 1, "-0.2");
        dial(-Double.MIN_VALUE, 0, "-0");
        dial(Double.MIN_VALUE, 0, "0");
        dial(-Double.MIN_VALUE, 2, "-0.00");
    }

    private static void wholes() {
        Check.sentence("what it is without sign as a LONG, in digits;");
        long power = 1;
        for (int k = 0; k < 16; k++) {
            dial(power, 0, "" + power);
            dial(power - 1, 0, "" + (power - 1));
            dial(-power, 0, "-" + power);
            power *= 10;
        }
        dial(12.999, 0, "12");
        dial(-12.999, 0, "-12");
        dial(0.999, 0, "0");
        dial(2147483648.0, 0, "2147483648");
        dial(9007199254740993.0, 0, "9007199254740992");
        dial(1e18, 0, "1000000000000000000");
        dial(9223372036854774784.0, 0, "9223372036854774784");
        dial(9223372036854775808.0, 0, "9223372036854775807");
        dial(-9223372036854775808.0, 0, "-9223372036854775807");
        dial(1e19, 0, "9223372036854775807");
        dial(-1e19, 1, "-9223372036854775807.0");
        dial(Double.MAX_VALUE, 0, "9223372036854775807");
        dial(-Double.MAX_VALUE, 18, "-9223372036854775807.000000000000000000");
    }

    private static void digits() {
        Check.sentence("with digits above 0 a point and so many (at most 18): r being x without sign % 1.0, each time r = r * 10, the digit is r as an INT, r less that. How many bytes.");
        dial(12.75, 0, "12");
        dial(12.75, 1, "12.7");
        dial(12.75, 2, "12.75");
        dial(12.75, 3, "12.750");
        dial(-12.75, 18, "-12.750000000000000000");
        dial(5, 18, "5.000000000000000000");
        dial(0.999, 2, "0.99");
        for (double x : new double[] {0.1, 0.2, 0.3, 0.7, 0.9, 1.1, 123.456, -0.1, 1e-5, 4.35, Math.nextDown(1.0), Math.nextDown(2.0), 1e-300, Math.PI, 0.05, 4503599627370495.5, 8.7, 1e15 / 3}) {
            for (int digits = 0; digits <= 18; digits++) {
                StringBuilder due = new StringBuilder(x < 0 ? "-" : "").append((long) Math.abs(x));
                if (digits > 0) due.append('.');
                double r = Math.abs(x) % 1.0;
                for (int k = 0; k < digits; k++) {
                    r = r * 10;
                    due.append((int) r);
                    r = r - (int) r;
                }
                dial(x, digits, due.toString());
            }
        }
        // By rounded steps, not by the exact digits of what is held (0.1000000000000000055).
        dial(0.1, 18, "0.100000000000000000");
        dial(0.3, 1, "0.3");
        dial(0.7, 17, "0.70000000000000000");
    }

    private static void noDial() {
        Check.sentence("NONE, and TEXT stays, when it is not finite, or digits is not 0 .. 18.");
        TurningHall hall = new TurningHall();
        for (double x : ENDLESS) Check.due("dial " + x, hall.dial(Check.bits(x), 1), -1);
        Check.due("no TEXT", hall.count(6), 0);
        Check.due("dial", hall.dial(Check.bits(3.5), 1), 3);
        for (double x : ENDLESS) {
            for (int digits : new int[] {-1, 0, 18, 19}) Check.due("dial " + x, hall.dial(Check.bits(x), digits), -1);
        }
        for (int digits : new int[] {-1, -2, 19, 20, FAR[0], FAR[1]}) Check.due("digits " + digits, hall.dial(Check.bits(7.0), digits), -1);
        Check.due("TEXT stays", Check.text(hall), "3.5");
        Check.due("digits 18", hall.dial(Check.bits(7.0), 18), 20);
        Check.due("digits 0", hall.dial(Check.bits(7.0), 0), 1);
        Check.due("a new plan leaves it", hall.plan() == 0 && hall.count(6) == 1, true);
    }

    private static void days() {
        Check.sentence("TEXT becomes seconds (a DOUBLE) as days, hours, minutes, seconds: with d the floor of x / 86400.0, s = x % 86400.0, if it is below 0 86400.0 more (and if that is 86400.0 then, 0.0):");
        clock(0, "0 00:00:00");
        clock(-0.0, "0 00:00:00");
        clock(86399, "0 23:59:59");
        clock(86399.99, "0 23:59:59");
        clock(86400, "1 00:00:00");
        clock(172799, "1 23:59:59");
        clock(172800, "2 00:00:00");
        clock(-1, "-1 23:59:59");
        clock(-0.5, "-1 23:59:59");
        clock(-86399, "-1 00:00:01");
        clock(-86399.5, "-1 00:00:00");
        clock(-86400, "-1 00:00:00");
        clock(-86400.5, "-2 23:59:59");
        clock(-86401, "-2 23:59:59");
        clock(-172800, "-2 00:00:00");
        // So little below 0 that 86400.0 more is 86400.0: a whole day, which is 0.0 then.
        clock(-1e-20, "-1 00:00:00");
        clock(-1e-12, "-1 00:00:00");
        clock(-1e-11, "-1 23:59:59");
        // The quotient is -0 here, its floor, too.
        clock(-Double.MIN_VALUE, "0 00:00:00");
        clock(Double.MIN_VALUE, "0 00:00:00");
        clock(-1e-310, "-1 00:00:00");
    }

    private static void hours() {
        Check.sentence("d as dial() writes it without digits, a blank, then two digits each of s / 3600 , s / 60 % 60, s % 60 (s as an INT first), with : between.");
        clock(1, "0 00:00:01");
        clock(9.99, "0 00:00:09");
        clock(10, "0 00:00:10");
        clock(59.99, "0 00:00:59");
        clock(60, "0 00:01:00");
        clock(599, "0 00:09:59");
        clock(600, "0 00:10:00");
        clock(3599.9, "0 00:59:59");
        clock(3600, "0 01:00:00");
        clock(35999, "0 09:59:59");
        clock(36000, "0 10:00:00");
        clock(45296.5, "0 12:34:56");
        clock(86400 * 1234567.0 + 45296, "1234567 12:34:56");
        clock(-86400 * 1234567.0 + 45296, "-1234567 12:34:56");
        for (double x : new double[] {1e300, -1e300, Double.MAX_VALUE, -Double.MAX_VALUE, 1e24, -1e24, 8e23, -8e23}) {
            double s = x % 86400.0;
            if (s < 0) s += 86400.0;
            int i = (int) s;
            clock(x, (x < 0 ? "-" : "") + (long) Math.abs(Math.floor(x / 86400.0)) + String.format(" %02d:%02d:%02d", i / 3600, i / 60 % 60, i % 60));
        }
    }

    private static void noClock() {
        Check.sentence("How many bytes; NONE, and TEXT stays, when it is not finite.");
        TurningHall hall = new TurningHall();
        for (double x : ENDLESS) Check.due("clock " + x, hall.clock(Check.bits(x)), -1);
        Check.due("no TEXT", hall.count(6), 0);
        Check.due("clock", hall.clock(Check.bits(90061.0)), 10);
        for (double x : ENDLESS) Check.due("clock " + x, hall.clock(Check.bits(x)), -1);
        Check.due("TEXT stays", Check.text(hall), "1 01:01:01");
        Check.due("as many bytes as a LONG has", hall.clock(Check.bits(-1e300)), 29);
        Check.due("count(6)", hall.count(6), 29);
    }

    private static void octets() {
        Check.sentence("Byte k of TEXT; NONE when there is none.");
        TurningHall hall = new TurningHall();
        for (int k : new int[] {-1, 0, 1, 47, 48, FAR[0], FAR[1]}) Check.due("octet(" + k + ") of no TEXT", hall.octet(k), -1);
        hall.dial(Check.bits(-9.3e18), 18);
        String text = "-9223372036854775807.000000000000000000";
        for (int k = 0; k < 39; k++) Check.due("octet(" + k + ")", hall.octet(k), text.charAt(k));
        for (int k : new int[] {-1, 39, 40, 47, 48, 49, 100, FAR[0], FAR[1]}) Check.due("octet(" + k + ")", hall.octet(k), -1);
        hall.dial(Check.bits(7.0), 0);
        Check.due("octet(0)", hall.octet(0), '7');
        Check.due("nothing of the TEXT before", hall.octet(1), -1);
    }

    private static void measures() {
        Check.sentence("gcd of two DOUBLEs by their BITS, as a formula has it: its BITS; -1 (which is no number's) when one is not finite.");
        double[] all = {0.0, -0.0, 12, -18, 7.5, 0.1, -0.3, 365.25, 29.530588, Double.MIN_VALUE, -Double.MIN_VALUE, Double.MIN_NORMAL, Double.MAX_VALUE, -Double.MAX_VALUE, 1e300, 3};
        Halls halls = new Halls("part x:double=0 then x;part y:double=0 then y;");
        for (double a : all) {
            for (double b : all) {
                TurningHall hall = halls.of(12);
                hall.set(0, Check.bits(a));
                hall.set(1, Check.bits(b));
                Check.gives(hall, "gcd(x,y)", 7, hall.measure(Check.bits(a), Check.bits(b)));
                double m = Math.abs(a);
                double n = Math.abs(b);
                while (n != 0) {
                    double r = m % n;
                    m = n;
                    n = r;
                }
                Check.due("measure " + a + " " + b, hall.measure(Check.bits(a), Check.bits(b)), Check.bits(m));
            }
            TurningHall hall = halls.of(9);
            for (double x : ENDLESS) {
                Check.due("measure " + x, hall.measure(Check.bits(x), Check.bits(a)), -1);
                Check.due("measure " + x, hall.measure(Check.bits(a), Check.bits(x)), -1);
                Check.due("measure " + x, hall.measure(Check.bits(x), Check.bits(x)), -1);
            }
        }
        Check.due("measure 12 18", HALLS.of(1).measure(Check.bits(12.0), Check.bits(-18.0)), Check.bits(6.0));
        Check.due("measure 0 0", HALLS.of(1).measure(Check.bits(-0.0), Check.bits(-0.0)), 0);
    }

    private static void hands() {
        Check.sentence("When two hands that go round in a and b (DOUBLEs above 0, by BITS) and stand together now do so again: with g gcd(a, b): q = b / g, m = a * q; the BITS of m;");
        double[][] rows = {{60, 3600, 3600}, {3600, 60, 3600}, {1.5, 2.5, 7.5}, {4, 6, 12}, {7, 7, 7}, {43200, 3600, 43200}, {Double.MIN_VALUE, Double.MIN_VALUE, Double.MIN_VALUE},
            {Double.MAX_VALUE, Double.MAX_VALUE, Double.MAX_VALUE}, {Double.MIN_VALUE, 2 * Double.MIN_VALUE, 2 * Double.MIN_VALUE}};
        for (double[] row : rows) Check.due("together " + row[0] + " " + row[1], HALLS.of(1).together(Check.bits(row[0]), Check.bits(row[1])), Check.bits(row[2]));
        for (double[] row : new double[][] {{0.1, 0.3}, {0.3, 0.1}, {365.25, 29.530588}, {29.530588, 365.25}, {1.1, 3.3}}) {
            double g = row[0];
            double n = row[1];
            while (n != 0) {
                double r = g % n;
                g = n;
                n = r;
            }
            Check.due("together " + row[0] + " " + row[1], HALLS.of(1).together(Check.bits(row[0]), Check.bits(row[1])), Check.bits(row[0] * (row[1] / g)));
        }
    }

    private static void noHands() {
        Check.sentence("-1 when one is not finite or not above 0, or m is not finite.");
        long one = Check.bits(1.0);
        double[] bad = {0.0, -0.0, -1.0, -Double.MIN_VALUE, -Double.MAX_VALUE, Double.NaN, Double.POSITIVE_INFINITY, Double.NEGATIVE_INFINITY};
        for (double x : bad) {
            Check.due("together " + x + " 1", HALLS.of(1).together(Check.bits(x), one), -1);
            Check.due("together 1 " + x, HALLS.of(1).together(one, Check.bits(x)), -1);
            Check.due("together of both", HALLS.of(1).together(Check.bits(x), Check.bits(x)), -1);
        }
        Check.due("no number", HALLS.of(1).together(0x7ff0000000000001L, one), -1);
        Check.due("m is not finite", HALLS.of(1).together(Check.bits(Double.MAX_VALUE), Check.bits(3.0)), -1);
        Check.due("m is not finite", HALLS.of(1).together(Check.bits(3.0), Check.bits(Double.MAX_VALUE)), -1);
        Check.due("q is not finite", HALLS.of(1).together(Check.bits(3 * Double.MIN_VALUE), Check.bits(Math.scalb(1.0, 1023))), -1);
        Check.due("m is just finite", HALLS.of(1).together(Check.bits(1.0), Check.bits(Double.MAX_VALUE)), Check.bits(Double.MAX_VALUE));
        Check.due("q is not finite", HALLS.of(1).together(1, one), -1);
        Check.due("the least above 0", HALLS.of(1).together(one, 1), one);
    }

    private static void train(double t, int stages, int low, int high, double far, int... row) {
        String call = "train " + t + " " + stages + " " + low + " " + high;
        TurningHall hall = new TurningHall();
        Check.due(call, hall.train(Check.bits(t), stages, low, high), Check.bits(far));
        Check.due("count(7) of " + call, hall.count(7), row.length);
        for (int k = 0; k < 5; k++) Check.due("wheel " + k + " of " + call, hall.wheel(k), k < row.length ? row[k] : 0);
    }

    private static void trainBounds() {
        Check.sentence("A train for a DOUBLE t above 0 (by BITS): of stages (1, 2) pairs of wheels, each of low .. high teeth (4 <= low <= high <= low + 30, high <= 200):");
        train(1.0, 1, 4, 4, 0, 4, 4);
        train(1.0, 2, 4, 4, 0, 4, 4, 4, 4);
        train(100, 1, 4, 34, 91.5, 34, 4);
        train(100, 2, 4, 34, 27.75, 34, 4, 34, 4);
        train(1e-9, 1, 4, 34, 4.0 / 34 - 1e-9, 4, 34);
        train(1.0, 1, 200, 200, 0, 200, 200);
        train(1.0, 2, 170, 200, 0, 170, 170, 170, 170);
        train(2.0, 1, 170, 200, 2 - 200.0 / 170, 200, 170);
        train(Double.MIN_VALUE, 1, 4, 8, 0.5, 4, 8);
        train(Double.MAX_VALUE, 1, 4, 8, Double.MAX_VALUE, 4, 4);
    }

    private static void nearest(double t, int low, int high) {
        double best = Double.MAX_VALUE;
        int[] one = {};
        int[] two = {};
        for (int n = low; n <= high; n++) {
            for (int m = low; m <= high; m++) {
                double far = Math.abs((double) n / m - t);
                if (one.length == 0 || far < best) {
                    best = far;
                    one = new int[] {n, m};
                }
            }
        }
        train(t, 1, low, high, best, one);
        for (int n1 = low; n1 <= high; n1++) {
            for (int m1 = low; m1 <= high; m1++) {
                double first = (double) n1 / m1;
                for (int n2 = low; n2 <= high; n2++) {
                    for (int m2 = low; m2 <= high; m2++) {
                        double far = Math.abs(first * ((double) n2 / m2) - t);
                        if (two.length == 0 || far < best) {
                            best = far;
                            two = new int[] {n1, m1, n2, m2};
                        }
                    }
                }
            }
        }
        train(t, 2, low, high, best, two);
    }

    private static void nearestTrains() {
        Check.sentence("that for which the value v = n1 / m1 (as DOUBLEs; with 2 stages (n1 / m1) * (n2 / m2), rounded each) lies nearest: the least v - t without sign; of several the first as a row n1, m1, n2, m2.");
        // Of several the first.
        train(1.0, 1, 4, 10, 0, 4, 4);
        train(0.5, 1, 4, 10, 0, 4, 8);
        train(2.0, 1, 4, 10, 0, 8, 4);
        train(2.0, 2, 4, 8, 0, 4, 4, 8, 4);
        train(4.0, 2, 4, 8, 0, 8, 4, 8, 4);
        train(3.0, 2, 4, 8, 0, 6, 4, 8, 4);
        // As far on both sides: 1 and 5/4 lie 1/8 from the one, 1 and 4/5 (rounded) a tenth from the other.
        train(1.125, 1, 4, 5, 0.125, 4, 4);
        train(0.9, 1, 4, 5, 1 - 0.9, 4, 4);
        // So far from all that they are as far as one another when it is rounded.
        train(1e300, 1, 4, 34, 1e300, 4, 4);
        train(1e300, 2, 4, 34, 1e300, 4, 4, 4, 4);
        java.util.Random random = new java.util.Random(12);
        for (int k = 0; k < 60; k++) {
            int low = 4 + random.nextInt(180);
            int high = Math.min(200, low + (k < 4 ? 30 : random.nextInt(9)));
            double n = low + random.nextInt(high - low + 1);
            double m = low + random.nextInt(high - low + 1);
            double ratio = n / m;
            nearest(k % 4 == 0 ? ratio : k % 4 == 1 ? ratio * (n / low) : k % 4 == 2 ? random.nextInt(60) / 16.0 + 0.0625 : random.nextDouble() * 3, low, high);
        }
        // Products that are rounded: some are as near as only their rounding makes them.
        for (double t : new double[] {1.0, Math.nextUp(1.0), Math.nextDown(1.0), 1.4, 1e15, 1e16, 3e17}) nearest(t, 4, 14);
    }

    private static void noTrain() {
        Check.sentence("The BITS of how far it is; -1, and the latest train stays, when t is not finite or not above 0, or the rest is not as told.");
        TurningHall hall = new TurningHall();
        long two = Check.bits(2.0);
        int[][] bad = {{0, 4, 8}, {3, 4, 8}, {-1, 4, 8}, {FAR[0], 4, 8}, {FAR[1], 4, 8}, {1, 3, 8}, {2, 3, 8}, {1, 0, 8}, {1, -4, 8}, {1, 8, 7}, {1, 200, 4}, {1, 4, 35}, {2, 4, 35}, {1, 170, 201},
            {2, 171, 201}, {1, 201, 201}, {1, 190, 205}, {1, FAR[1], FAR[0]}, {1, FAR[0], FAR[0]}, {1, FAR[1], FAR[1]}, {1, FAR[1], 8}, {1, 4, FAR[0]}, {1, FAR[0], 4}, {1, 4, FAR[1]}};
        double[] none = {0.0, -0.0, -2.0, -Double.MIN_VALUE, Double.NaN, Double.POSITIVE_INFINITY, Double.NEGATIVE_INFINITY};
        for (int latest = 0; latest < 3; latest++) {
            int[][] rows = {{0, 0, 0, 0}, {8, 4, 0, 0}, {4, 4, 8, 4}};
            if (latest > 0) Check.due("a train", hall.train(two, latest, 4, 8), 0);
            for (int[] row : bad) Check.due("train of " + java.util.Arrays.toString(row), hall.train(two, row[0], row[1], row[2]), -1);
            for (double t : none) Check.due("train for " + t, hall.train(Check.bits(t), 1, 4, 8) + hall.train(Check.bits(t), 2, 4, 8), -2);
            Check.due("count(7) stays", hall.count(7), 2 * latest);
            for (int k = 0; k < 4; k++) Check.due("wheel " + k + " stays", hall.wheel(k), rows[latest][k]);
        }
        Check.due("how far", hall.train(Check.bits(2.25), 1, 4, 8), Check.bits(0.25));
        Check.due("how far", hall.train(Check.bits(0.25), 1, 4, 8), Check.bits(0.25));
        Check.due("high 200", hall.train(two, 1, 170, 200), Check.bits(2 - 200.0 / 170));
    }

    private static void wheels() {
        Check.sentence("Wheel k of the latest train (n1, m1, n2, m2); 0 when there is none such.");
        TurningHall hall = new TurningHall();
        for (int k : new int[] {-1, 0, 1, 2, 3, 4, FAR[0], FAR[1]}) Check.due("wheel(" + k + ") ahead of any", hall.wheel(k), 0);
        hall.train(Check.bits(3.0), 2, 4, 8);
        int[] four = {6, 4, 8, 4};
        for (int k = 0; k < 4; k++) Check.due("wheel(" + k + ")", hall.wheel(k), four[k]);
        for (int k : new int[] {-1, 4, 5, FAR[0], FAR[1]}) Check.due("wheel(" + k + ")", hall.wheel(k), 0);
        hall.train(Check.bits(0.5), 1, 4, 8);
        int[] then = {4, 8, 0, 0, 0};
        for (int k = 0; k < 5; k++) Check.due("wheel(" + k + ") of 1 stage", hall.wheel(k), then[k]);
        hall.train(Check.bits(3.0), 2, 4, 8);
        for (int k = 0; k < 4; k++) Check.due("wheel(" + k + ") again", hall.wheel(k), four[k]);
        Check.plan(hall, "");
        Check.due("a new plan leaves them", hall.wheel(0), 6);
    }

    private static void date(double day, int... due) {
        for (int what = 0; what < 5; what++) Check.due("date " + day + " " + what, HALLS.of(1).date(Check.bits(day), what), due[what]);
    }

    private static void dates() {
        Check.sentence("The date of a day number (a DOUBLE by BITS; its floor as a LONG; day 0 is 1970, January 1), by the leap years of today's calendar, at all times:");
        date(0, 1970, 1, 1, 3, 1);
        date(-0.0, 1970, 1, 1, 3, 1);
        date(0.99, 1970, 1, 1, 3, 1);
        date(1, 1970, 1, 2, 4, 2);
        date(-1, 1969, 12, 31, 2, 365);
        date(-0.01, 1969, 12, 31, 2, 365);
        date(-Double.MIN_VALUE, 1969, 12, 31, 2, 365);
        date(Double.MIN_VALUE, 1970, 1, 1, 3, 1);
        date(-1.01, 1969, 12, 30, 1, 364);
        // Leap years: each 4th, not each 100th, but each 400th, also ahead of there being such a calendar.
        date(789, 1972, 2, 29, 1, 60);
        date(11016, 2000, 2, 29, 1, 60);
        date(11017, 2000, 3, 1, 2, 61);
        date(11322, 2000, 12, 31, 6, 366);
        date(-25509, 1900, 2, 28, 2, 59);
        date(-25508, 1900, 3, 1, 3, 60);
        date(47540, 2100, 2, 28, 6, 59);
        date(47541, 2100, 3, 1, 0, 60);
        date(-141428, 1582, 10, 14, 3, 287);
        date(-719528 + 59, 0, 2, 29, 1, 60);
        for (int day = -1500000; day < 1500000; day += 13) {
            java.time.LocalDate d = java.time.LocalDate.ofEpochDay(day);
            date(day + (day & 1) * 0.5, d.getYear(), d.getMonthValue(), d.getDayOfMonth(), d.getDayOfWeek().getValue() - 1, d.getDayOfYear());
        }
    }

    private static void yearsAndDays() {
        Check.sentence("0 year (0 ahead of 1, below 0 ahead of that), 1 month (1 on), 2 day, 3 day of the week (0 Monday), 4 day of the year (1 on).");
        date(-719162, 1, 1, 1, 0, 1);
        date(-719163, 0, 12, 31, 6, 366);
        date(-719528, 0, 1, 1, 5, 1);
        date(-719529, -1, 12, 31, 4, 365);
        date(-719528 - 365, -1, 1, 1, 4, 1);
        date(-719528 - 366, -2, 12, 31, 3, 365);
        for (int day = 4; day < 11; day++) Check.due("day of the week of day " + day, HALLS.of(1).date(Check.bits((double) day), 3), day - 4);
        int[] lengths = {31, 28, 31, 30, 31, 30, 31, 31, 30, 31, 30, 31};
        int ahead = 0;
        for (int month = 1; month <= 12; month++) {
            Check.due("month", HALLS.of(1).date(Check.bits((double) ahead), 1), month);
            Check.due("its first day", HALLS.of(1).date(Check.bits((double) ahead), 2), 1);
            Check.due("the day of the year", HALLS.of(1).date(Check.bits((double) ahead), 4), ahead + 1);
            ahead += lengths[month - 1];
            Check.due("its last day", HALLS.of(1).date(Check.bits((double) ahead - 1), 2), lengths[month - 1]);
            Check.due("still that month", HALLS.of(1).date(Check.bits((double) ahead - 1), 1), month);
        }
    }

    private static void noDate() {
        Check.sentence("-1000000000 for another what, when it is not finite, or the day number is beyond -100000000 .. 100000000.");
        int none = -1000000000;
        for (int what : new int[] {-1, 5, 6, FAR[0], FAR[1]}) Check.due("what " + what, HALLS.of(1).date(0, what), none);
        for (int what = 0; what < 5; what++) {
            for (double x : ENDLESS) Check.due("date " + x, HALLS.of(1).date(Check.bits(x), what), none);
            for (double x : new double[] {100000001.0, 100000001.5, -100000001.0, -100000000.5, -100000000.00000002, 1e9, -1e9, 1e18, 1e19, -1e19, Double.MAX_VALUE, -Double.MAX_VALUE, 4294967296.0}) {
                Check.due("date " + x, HALLS.of(1).date(Check.bits(x), what), none);
            }
        }
        java.time.LocalDate last = java.time.LocalDate.ofEpochDay(100000000);
        java.time.LocalDate first = java.time.LocalDate.ofEpochDay(-100000000);
        for (double x : new double[] {100000000.0, 100000000.99}) {
            date(x, last.getYear(), last.getMonthValue(), last.getDayOfMonth(), last.getDayOfWeek().getValue() - 1, last.getDayOfYear());
        }
        for (double x : new double[] {-100000000.0, -99999999.5}) {
            date(x, first.getYear(), first.getMonthValue(), first.getDayOfMonth(), first.getDayOfWeek().getValue() - 1, first.getDayOfYear());
        }
    }

    private static final String PLAN = "part a:int=1 then a*2;part d:double=step then d+step/(a-4);bell r when a>2;part t:truth=true then 1/(a-8)==0;"
        + "part f:float=1f then f*1.5f;part j:int=1 then ticks%2==0?5/(j-j):(int)(1.0/(d-d));show s:long=a+old(a);bell all when true;bell jam when 1.0%(d-d)==0.0;";

    /** All that can be told of things, bells, ticks, STRIKES, pasts and STEP: some 400 calls, so the hall is made for it. */
    private static String all(Supplier<TurningHall> made) {
        TurningHall hall = made.get();
        StringBuilder s = new StringBuilder();
        for (int i = 0; i < 6; i++) {
            for (int ago = 0; ago <= 31; ago++) s.append(hall.value(i, ago)).append(' ');
            for (int what = 3; what < 6; what++) s.append(hall.thing(i, what)).append(' ');
        }
        for (int bell = 100; bell < 103; bell++) {
            for (int what = 3; what < 7; what++) s.append(hall.thing(bell, what)).append(' ');
        }
        for (int k = 0; k < 65; k++) s.append(hall.strike(k, 0)).append(' ').append(hall.strike(k, 1)).append(' ');
        for (String text : new String[] {"old(a)", "old(d)", "old(t)", "old(f)", "old(j)", "old(s)", "step", "ticks"}) {
            s.append(Check.ask(hall, text)).append(' ').append(hall.told()).append(' ');
        }
        return s.append(hall.tick(0)).append(' ').append(hall.count(5)).toString();
    }

    private static TurningHall turned(int ticks, double step) {
        TurningHall hall = Check.hall(PLAN);
        hall.step(Check.bits(step));
        hall.tick(ticks);
        return hall;
    }

    private static void keepsEmptyPlan() {
        Check.sentence("All that things, bells, ticks, STRIKES, pasts are, and STEP, is kept in a place 0 .. 3, for this plan (the empty one, too),");
        TurningHall hall = new TurningHall();
        for (int place : new int[] {-1, 4, 5, FAR[0], FAR[1]}) Check.due("keep(" + place + ")", hall.keep(place), false);
        hall.step(Check.bits(5.0));
        hall.tick(3);
        for (int place = 0; place < 4; place++) {
            Check.due("keep(" + place + ")", hall.keep(place), true);
            hall.tick(1);
        }
        hall.step(Check.bits(6.0));
        for (int place = 3; place >= 0; place--) {
            Check.due("back(" + place + ")", hall.back(place), true);
            Check.due("its ticks", hall.tick(0), 3 + place);
            Check.gives(hall, "step", 7, Check.bits(5.0));
        }
    }

    private static final int[] BACKS = {2, 0, 3, 1, 0, 0};

    /** A hall with so many places filled, then so many of BACKS done; what is kept in the last place may be left out. */
    private static TurningHall four(int[] ticks, int places, boolean keepsLast, int backs) {
        TurningHall hall = Check.hall(PLAN);
        for (int place = 0; place < places; place++) {
            hall.step(Check.bits(place + 0.25));
            hall.tick(ticks[place]);
            if (place == 2) hall.set(0, 77);
            if (place < places - 1 || keepsLast) Check.due("keep(" + place + ")", hall.keep(place), true);
        }
        for (int k = 0; k < backs; k++) {
            hall.tick(BACKS[k] * 20 + 1);
            hall.set(1, Check.bits(9.0));
            hall.step(Check.bits(99.0));
            Check.due("back(" + BACKS[k] + ")", hall.back(BACKS[k]), true);
        }
        return hall;
    }

    private static void keeps() {
        Check.sentence("All that things, bells, ticks, STRIKES, pasts are, and STEP, is kept in a place 0 .. 3, for this plan (the empty one, too), instead of what was kept there: false for another place.");
        // Each place by itself, at many ticks: a few, those of the pasts and those of the STRIKES round about full.
        for (int[] ticks : new int[][] {{0, 1, 2, 3}, {30, 31, 32, 33}, {40, 63, 64, 65}, {100, 7, 0, 500}}) {
            String[] due = new String[4];
            for (int place = 0; place < 4; place++) {
                int places = place + 1;
                due[place] = all(() -> four(ticks, places, false, 0));
                Check.due("keep() changes nothing", all(() -> four(ticks, places, true, 0)), due[place]);
            }
            for (int k = 1; k <= BACKS.length; k++) {
                int backs = k;
                Check.due("all is as it was", all(() -> four(ticks, 4, true, backs)), due[BACKS[k - 1]]);
            }
        }
        // Instead of what was kept there.
        String then = all(() -> turned(7, 0.5));
        Supplier<TurningHall> again = () -> {
            TurningHall hall = turned(4, 0.5);
            hall.keep(1);
            hall.tick(3);
            hall.keep(1);
            hall.tick(9);
            Check.due("back(1)", hall.back(1), true);
            return hall;
        };
        Check.due("the later one", all(again), then);
        Check.due("nothing is lost by another place", all(() -> {
            TurningHall hall = again.get();
            for (int place : new int[] {-1, 4}) Check.due("keep(" + place + ")", hall.keep(place), false);
            Check.due("back(1)", hall.back(1), true);
            return hall;
        }), then);
    }

    /** Kept at tick 4 in place 2, then so many times away and back. */
    private static TurningHall keptAtFour(int times) {
        TurningHall hall = turned(4, 0.5);
        hall.keep(2);
        for (int k = 0; k < times; k++) {
            hall.tick(70);
            Check.due("it comes back and stays kept", hall.back(2), true);
        }
        return hall;
    }

    private static void backs() {
        Check.sentence("What was kept there comes back (and stays kept): false, when nothing is, or it was for another plan (also the same text read anew).");
        String due = all(() -> turned(4, 0.5));
        Check.due("back() of nothing changes nothing", all(() -> {
            TurningHall hall = turned(4, 0.5);
            for (int place : new int[] {0, 1, 2, 3, -1, 4, FAR[0], FAR[1]}) Check.due("back(" + place + ") of nothing", hall.back(place), false);
            hall.keep(2);
            for (int place : new int[] {0, 1, 3}) Check.due("back(" + place + ") of nothing", hall.back(place), false);
            return hall;
        }), due);
        for (int k = 1; k < 4; k++) {
            int times = k;
            Check.due("what was kept", all(() -> keptAtFour(times)), due);
        }
        Check.due("it goes on as it would have", all(() -> {
            TurningHall hall = keptAtFour(2);
            hall.tick(7);
            return hall;
        }), all(() -> turned(11, 0.5)));
        Check.due("a refused plan is no other plan", all(() -> {
            TurningHall hall = keptAtFour(1);
            hall.tick(7);
            Check.due("a refused plan", Check.plan(hall, "part"), -5);
            Check.due("back(2)", hall.back(2), true);
            return hall;
        }), due);
        Check.due("the same text read anew is another plan", all(() -> {
            TurningHall hall = keptAtFour(1);
            // What d begins with is STEP as it is by then.
            hall.step(Check.bits(1.0));
            Check.due("plan()", Check.plan(hall, PLAN), 6);
            hall.step(Check.bits(0.5));
            hall.tick(4);
            Check.due("back(2)", hall.back(2), false);
            return hall;
        }), due);
    }

    private static void backsOfOtherPlans() {
        Check.sentence("false, when nothing is, or it was for another plan (also the same text read anew).");
        TurningHall hall = keptAtFour(1);
        Check.plan(hall, PLAN);
        hall.tick(1);
        hall.keep(0);
        Check.plan(hall, "");
        for (int place = 0; place < 4; place++) Check.due("another plan", hall.back(place), false);
        hall.keep(1);
        Check.plan(hall, "");
        for (int place = 0; place < 4; place++) Check.due("the empty one anew", hall.back(place), false);
        Check.due("keep(1)", hall.keep(1), true);
        Check.due("back(1)", hall.back(1), true);
        TurningHall first = new TurningHall();
        first.keep(0);
        first.plan();
        Check.due("that of a new object is another than an empty one that is read", first.back(0), false);
        // The tape, TEXT, told(), fault() and the train are not kept.
        TurningHall other = turned(2, 1.5);
        other.keep(0);
        other.dial(Check.bits(7.5), 1);
        other.train(Check.bits(1.0), 1, 4, 5);
        Check.gives(other, "77", 4, 77);
        Check.ask(other, "zz");
        other.feed(0, 0, 0, 0, 0);
        Check.due("back(0)", other.back(0), true);
        Check.due("told()", other.told(), 77);
        Check.due("fault()", other.fault(), 3);
        Check.due("the tape", other.count(4), 20);
        Check.due("TEXT", Check.text(other), "7.5");
        Check.due("wheels", other.wheel(0) + other.wheel(1) + other.count(7), 10);
    }

    public static void run() {
        signs();
        wholes();
        digits();
        noDial();
        days();
        hours();
        noClock();
        octets();
        measures();
        hands();
        noHands();
        trainBounds();
        nearestTrains();
        noTrain();
        wheels();
        dates();
        yearsAndDays();
        noDate();
        keepsEmptyPlan();
        keeps();
        backs();
        backsOfOtherPlans();
    }

    public static void main(String[] args) {
        run();
        Check.close("EdgesOfDeskTest");
    }
}
