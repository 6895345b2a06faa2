/** Promises 17 to 24: dial, clock, octet, measure, together, train, wheel, date. */
public final class DeskTest {
    private static final Halls HALLS = new Halls();
    private static final double[] ENDLESS = {Double.NaN, Double.POSITIVE_INFINITY, Double.NEGATIVE_INFINITY};

    private static void dial(double x, int digits, String due) {
        TurningHall hall = HALLS.of(64);
        Check.due("dial " + x, hall.dial(Check.bits(x), digits), due.length());
        Check.due("count(6) of dial " + x, hall.count(6), due.length());
        Check.due("TEXT of dial " + x, Check.text(hall), due);
    }

    private static void clock(double x, String due) {
        TurningHall hall = HALLS.of(64);
        Check.due("clock " + x, hall.clock(Check.bits(x)), due.length());
        Check.due("TEXT of clock " + x, Check.text(hall), due);
    }

    private static void texts() {
        dial(0, 0, "0");
        dial(-0.0, 0, "0");
        dial(-0.0, 2, "0.00");
        dial(1, 0, "1");
        dial(12.75, 3, "12.750");
        dial(-12.75, 1, "-12.7");
        dial(-0.25, 0, "-0");
        dial(999.999, 2, "999.99");
        dial(10, 0, "10");
        dial(99, 0, "99");
        dial(100, 1, "100.0");
        dial(9.3e18, 2, "9223372036854775807.00");
        dial(-9.3e18, 0, "-9223372036854775807");
        dial(1e300, 1, "9223372036854775807.0");
        dial(1e18, 0, "1000000000000000000");
        // By rounded steps, not by the exact decimals of 0.1.
        dial(0.1, 18, Oracle.dialText(0.1, 18));
        dial(0.1, 18, "0.100000000000000000");
        dial(0.3, 18, Oracle.dialText(0.3, 18));
        dial(-Double.MAX_VALUE, 18, "-9223372036854775807.000000000000000000");
        dial(Math.nextDown(1.0), 18, Oracle.dialText(Math.nextDown(1.0), 18));
        dial(Double.MIN_VALUE, 5, "0.00000");
        dial(3.5, 1, "3.5");
        TurningHall hall = new TurningHall();
        hall.dial(Check.bits(3.5), 1);
        for (double x : ENDLESS) {
            Check.due("dial " + x, hall.dial(Check.bits(x), 1), -1);
            Check.due("clock " + x, hall.clock(Check.bits(x)), -1);
        }
        Check.due("digits 19", hall.dial(Check.bits(1.0), 19), -1);
        Check.due("digits -1", hall.dial(Check.bits(1.0), -1), -1);
        Check.due("TEXT stays", Check.text(hall), "3.5");
        Check.due("octet(0)", hall.octet(0), '3');
        Check.due("octet(2)", hall.octet(2), '5');
        Check.due("octet(3)", hall.octet(3), -1);
        Check.due("octet(-1)", hall.octet(-1), -1);
        clock(0, "0 00:00:00");
        clock(-0.0, "0 00:00:00");
        clock(1, "0 00:00:01");
        clock(0.5, "0 00:00:00");
        clock(0.05, "0 00:00:00");
        clock(86400.5, "1 00:00:00");
        clock(-86399.5, "-1 00:00:00");
        clock(59.99, "0 00:00:59");
        clock(60, "0 00:01:00");
        clock(3599, "0 00:59:59");
        clock(86399.9, "0 23:59:59");
        clock(86400, "1 00:00:00");
        clock(-1, "-1 23:59:59");
        clock(-86400, "-1 00:00:00");
        clock(-86401.5, "-2 23:59:58");
        clock(1e9, "11574 01:46:40");
        clock(-1e-20, "-1 00:00:00");
        clock(45296.5, "0 12:34:56");
        clock(1e300, "9223372036854775807 " + Check.text(clocked(1e300)).split(" ")[1]);
        clock(-Double.MIN_VALUE, "0 00:00:00");
    }

    private static TurningHall clocked(double x) {
        int s = (int) (x % 86400.0);
        TurningHall hall = new TurningHall();
        hall.clock(Check.bits((double) s));
        return hall;
    }

    private static void hands() {
        long one = Check.bits(1.0);
        Check.due("measure", HALLS.of(1).measure(Check.bits(12.0), Check.bits(-18.0)), Check.bits(6.0));
        Check.due("measure", HALLS.of(1).measure(Check.bits(-0.0), Check.bits(-0.0)), 0);
        Check.due("measure", HALLS.of(1).measure(Check.bits(0.0), Check.bits(-7.5)), Check.bits(7.5));
        Check.due("measure", HALLS.of(1).measure(Check.bits(365.25), Check.bits(29.530588)), Check.bits(Oracle.gcd(365.25, 29.530588)));
        Check.due("measure", HALLS.of(1).measure(Check.bits(Double.MAX_VALUE), 1), 1);
        Check.due("together", HALLS.of(1).together(Check.bits(60.0), Check.bits(3600.0)), Check.bits(3600.0));
        Check.due("together", HALLS.of(1).together(Check.bits(1.5), Check.bits(2.5)), Check.bits(7.5));
        Check.due("together", HALLS.of(1).together(Check.bits(43200.0), Check.bits(3600.0)), Check.bits(43200.0));
        Check.due("together", HALLS.of(1).together(Check.bits(0.1), Check.bits(0.3)), Check.bits(0.1 * (0.3 / Oracle.gcd(0.1, 0.3))));
        Check.due("m is not finite", HALLS.of(1).together(Check.bits(Double.MAX_VALUE), Check.bits(3.0)), -1);
        Check.due("q is not finite", HALLS.of(1).together(1, Check.bits(Double.MAX_VALUE)), -1);
        Check.due("0", HALLS.of(1).together(0, one), -1);
        Check.due("-0", HALLS.of(1).together(one, Check.bits(-0.0)), -1);
        Check.due("below 0", HALLS.of(1).together(Check.bits(-1.0), one), -1);
        for (double x : ENDLESS) {
            Check.due("measure " + x, HALLS.of(1).measure(Check.bits(x), one), -1);
            Check.due("measure " + x, HALLS.of(1).measure(one, Check.bits(x)), -1);
            Check.due("together " + x, HALLS.of(1).together(Check.bits(x), one), -1);
            Check.due("together " + x, HALLS.of(1).together(one, Check.bits(x)), -1);
            Check.due("train " + x, HALLS.of(1).train(Check.bits(x), 1, 4, 5), -1);
        }
    }

    private static void train(double t, int stages, int low, int high, double far, int... row) {
        String call = "train " + t + " " + stages + " " + low + " " + high;
        TurningHall hall = new TurningHall();
        Check.due(call, hall.train(Check.bits(t), stages, low, high), Check.bits(far));
        Check.due("count(7) of " + call, hall.count(7), row.length);
        for (int k = 0; k < 5; k++) Check.due("wheel " + k + " of " + call, hall.wheel(k), k < row.length ? row[k] : 0);
        Check.due("wheel -1", hall.wheel(-1), 0);
    }

    private static void trains() {
        train(1.0, 1, 4, 10, 0.0, 4, 4);
        train(0.5, 1, 4, 10, 0.0, 4, 8);
        train(2.5, 1, 4, 4, 1.5, 4, 4);
        train(100.0, 1, 4, 12, 97.0, 12, 4);
        train(100.0, 2, 4, 12, 91.0, 12, 4, 12, 4);
        train(1e300, 1, 4, 34, 1e300, 4, 4);
        train(1e300, 2, 4, 34, 1e300, 4, 4, 4, 4);
        train(Double.MIN_VALUE, 1, 4, 8, 0.5, 4, 8);
        train(1.0, 2, 170, 200, 0.0, 170, 170, 170, 170);
        train(3.0, 2, 4, 8, 0.0, 6, 4, 8, 4);
        // Two that are as far, one on each side: the first row.
        train(1.125, 1, 4, 4, 0.125, 4, 4);
        java.util.Random random = new java.util.Random(9);
        for (int k = 0; k < 60; k++) {
            int low = 4 + random.nextInt(60);
            int high = low + (k < 6 ? 30 : random.nextInt(12));
            double t = k % 3 == 0 ? random.nextInt(64) / 16.0 + 0.0625 : random.nextDouble() * Math.pow(10, random.nextInt(4) - 2);
            if (k == 20) t = 1e16;
            if (k == 21) t = 1e15;
            Oracle oracle = new Oracle();
            double far = Double.longBitsToDouble(oracle.train(Check.bits(t), 2, low, high));
            train(t, 2, low, high, far, oracle.wheels);
        }
        TurningHall hall = new TurningHall();
        long t = Check.bits(2.0);
        hall.train(t, 1, 4, 8);
        int[][] bad = {{0, 4, 8}, {3, 4, 8}, {-1, 4, 8}, {1, 3, 8}, {1, 8, 7}, {1, 4, 35}, {2, 171, 201}, {1, 201, 201}, {1, Integer.MIN_VALUE, Integer.MAX_VALUE},
            {1, Integer.MAX_VALUE, Integer.MAX_VALUE}, {2, -20, 5}};
        for (int[] row : bad) Check.due("train of " + java.util.Arrays.toString(row), hall.train(t, row[0], row[1], row[2]), -1);
        Check.due("train of 0", hall.train(0, 1, 4, 8), -1);
        Check.due("train of -0", hall.train(Check.bits(-0.0), 1, 4, 8), -1);
        Check.due("train below 0", hall.train(Check.bits(-2.0), 1, 4, 8), -1);
        Check.due("the latest stays", hall.wheel(0) * 100 + hall.wheel(1), 804);
        Check.due("and is 2 wheels", hall.count(7), 2);
        Check.due("170 .. 200", hall.train(t, 1, 170, 200) >= 0, true);
    }

    private static void date(double day, int... due) {
        for (int what = 0; what < 5; what++) Check.due("date " + day + " " + what, HALLS.of(1).date(Check.bits(day), what), due[what]);
    }

    private static void dates() {
        date(0, 1970, 1, 1, 3, 1);
        date(-0.0, 1970, 1, 1, 3, 1);
        date(0.999, 1970, 1, 1, 3, 1);
        date(-0.001, 1969, 12, 31, 2, 365);
        date(11016, 2000, 2, 29, 1, 60);
        date(11322, 2000, 12, 31, 6, 366);
        date(-25509, 1900, 2, 28, 2, 59);
        date(-25508, 1900, 3, 1, 3, 60);
        date(-719162, 1, 1, 1, 0, 1);
        date(-719163, 0, 12, 31, 6, 366);
        date(-719528, 0, 1, 1, 5, 1);
        date(-719529, -1, 12, 31, 4, 365);
        date(20775, 2026, 11, 18, 2, 322);
        int none = -1000000000;
        Check.due("what 5", HALLS.of(1).date(0, 5), none);
        Check.due("what -1", HALLS.of(1).date(0, -1), none);
        for (double x : ENDLESS) Check.due("date " + x, HALLS.of(1).date(Check.bits(x), 0), none);
        Check.due("the last", HALLS.of(1).date(Check.bits(100000000.9), 0), 275760);
        Check.due("beyond", HALLS.of(1).date(Check.bits(100000001.0), 0), none);
        Check.due("the first", HALLS.of(1).date(Check.bits(-100000000.0), 0), -271821);
        Check.due("beyond", HALLS.of(1).date(Check.bits(-100000000.1), 0), none);
        Check.due("far beyond", HALLS.of(1).date(Check.bits(-1e300), 3), none);
        Oracle oracle = new Oracle();
        for (int day = -800000; day < 800000; day += 7) {
            for (int what = 0; what < 5; what++) Check.due("date " + day, HALLS.of(1).date(Check.bits((double) day), what), oracle.date(Check.bits((double) day), what));
        }
        for (int day = -100000000; day <= 100000000; day += 99991) {
            for (int what = 0; what < 5; what++) Check.due("date " + day, HALLS.of(1).date(Check.bits((double) day), what), oracle.date(Check.bits((double) day), what));
        }
    }

    public static void main(String[] args) {
        texts();
        hands();
        trains();
        dates();
        Check.close("DeskTest");
    }
}
