import java.util.Random;

/** Runs of 512 calls at random, on a TurningHall and on the Oracle side by side. */
public final class RandomRunsTest {
    private static final int MOST_CALLS = 512;
    // Behind so many calls nothing is changed any more: a text may take 152, and what follows must be looked at.
    private static final int LAST_CHANGE = 320;
    private static final double[] REALS = {0.0, -0.0, 1.0, -1.0, 0.5, -0.5, 86400.0, -86400.0, -1e-20, 1e-300, Double.MIN_VALUE,
        Double.MAX_VALUE, -Double.MAX_VALUE, Double.MIN_NORMAL, 365.25, 29.530588, 687.0, 1e17, 9.3e18, -9.3e18, 0.1, 0.3, 1e8,
        -1e8, 100000000.5, -100000000.5, 11017.5, Double.NaN, Double.POSITIVE_INFINITY, Double.NEGATIVE_INFINITY};

    private final Random random;
    private final TextMaker maker;
    private final TurningHall hall = new TurningHall();
    private final Oracle oracle = new Oracle();
    private final String run;
    private String latest = "";
    private int calls = 0;

    private RandomRunsTest(long seed) {
        random = new Random(seed);
        maker = new TextMaker(random);
        run = "seed " + seed + ": ";
    }

    /** Both answers to one call. */
    private void same(String call, long got, long want) {
        calls++;
        if (got != want && Check.wrong() < 5) System.out.println("on the tape: " + latest);
        Check.due(run + call, got, want);
    }

    private void same(String call, boolean got, boolean want) {
        same(call, got ? 1L : 0L, want ? 1L : 0L);
    }

    private void tape(String text) {
        latest = text;
        if (text.length() > 3000) text = text.substring(0, 3000);
        if (random.nextInt(30) != 0) same("end", hall.end(0), oracle.end(0));
        int[] five = Check.numbers(text);
        for (int k = 0; k < five.length; k += 5) {
            same("feed", hall.feed(five[k], five[k + 1], five[k + 2], five[k + 3], five[k + 4]),
                oracle.feed(five[k], five[k + 1], five[k + 2], five[k + 3], five[k + 4]));
        }
        int n = oracle.count(4) - five.length * 4 + text.length();
        if (random.nextInt(20) != 0) same("end", hall.end(n), oracle.end(n));
    }

    private long someBits() {
        switch (random.nextInt(5)) {
            case 0:
                return random.nextLong();
            case 1:
                return Double.doubleToRawLongBits(random.nextInt(2000000) / 64.0 - 10000);
            case 2:
                return Double.doubleToRawLongBits(random.nextGaussian() * Math.pow(10, random.nextInt(24) - 4));
            case 3:
                return random.nextInt(100) - 20;
            default:
                return Double.doubleToRawLongBits(REALS[random.nextInt(REALS.length)]);
        }
    }

    private void desk() {
        long a = someBits();
        long b = someBits();
        int n = random.nextInt(22) - 2;
        int low = random.nextInt(20) == 0 ? random.nextInt(6) : 4 + random.nextInt(60);
        int high = low + random.nextInt(random.nextInt(10) == 0 ? 33 : 7) - (random.nextInt(20) == 0 ? 3 : 0);
        switch (random.nextInt(6)) {
            case 0:
                same("dial " + a + " " + n, hall.dial(a, n), oracle.dial(a, n));
                break;
            case 1:
                same("clock " + a, hall.clock(a), oracle.clock(a));
                break;
            case 2:
                same("measure " + a + " " + b, hall.measure(a, b), oracle.measure(a, b));
                break;
            case 3:
                same("together " + a + " " + b, hall.together(a, b), oracle.together(a, b));
                break;
            case 4:
                int stages = random.nextInt(12) == 0 ? random.nextInt(5) - 1 : 1 + random.nextInt(2);
                long t = random.nextInt(3) == 0 ? a : Double.doubleToRawLongBits(random.nextInt(4000) / 256.0);
                same("train " + t + " " + stages + " " + low + " " + high, hall.train(t, stages, low, high), oracle.train(t, stages, low, high));
                for (int k = 0; k < 4; k++) same("wheel " + k, hall.wheel(k), oracle.wheel(k));
                break;
            default:
                int what = random.nextInt(7) - 1;
                same("date " + a + " " + what, hall.date(a, what), oracle.date(a, what));
        }
        if (random.nextInt(4) == 0) {
            for (int k = -1; k <= oracle.count(6); k++) same("octet " + k, hall.octet(k), oracle.octet(k));
        }
    }

    private void act() {
        int i = random.nextInt(44) - 1;
        if (random.nextInt(3) != 0 && oracle.count(0) > 0) i = random.nextInt(oracle.count(0));
        int place = random.nextInt(6) - 1;
        int n = random.nextInt(40) == 0 ? random.nextInt(520) - 10 : random.nextInt(12);
        long bits = someBits();
        switch (random.nextInt(14)) {
            case 0:
            case 1:
            case 2:
                tape(maker.plan());
                int things = oracle.plan();
                same("plan", hall.plan(), things);
                if (things < 0) maker.refused();
                break;
            case 3:
            case 4:
                tape(random.nextInt(5) == 0 ? maker.large() : maker.asked(random.nextInt(4) == 0));
                same("ask", hall.ask(), oracle.ask());
                break;
            case 5:
                tape(maker.asked(true));
                same("await " + n, hall.await(n), oracle.await(n));
                break;
            case 6:
                same("keep " + place, hall.keep(place), oracle.keep(place));
                break;
            case 7:
                same("back " + place, hall.back(place), oracle.back(place));
                break;
            case 8:
                same("set " + i + " " + bits, hall.set(i, bits), oracle.set(i, bits));
                break;
            case 9:
                same("step " + bits, hall.step(bits), oracle.step(bits));
                break;
            case 10:
                desk();
                break;
            default:
                same("tick " + n, hall.tick(n), oracle.tick(n));
        }
    }

    /** One call that changes nothing. */
    private void look() {
        int things = oracle.count(0);
        int i = things == 0 || random.nextInt(12) == 0 ? random.nextInt(212) - 1 : random.nextInt(things);
        int bell = 100 + random.nextInt(Math.max(1, Math.min(12, oracle.count(1))));
        int what = random.nextInt(10) == 0 ? random.nextInt(9) - 1 : 3 + random.nextInt(4);
        int ago = random.nextInt(35) - 1;
        int k = random.nextInt(67) - 1;
        int few = random.nextInt(13) - 1;
        switch (random.nextInt(16)) {
            case 0:
                same("fault", hall.fault(), oracle.fault());
                break;
            case 1:
                same("told", hall.told(), oracle.told());
                break;
            case 2:
                same("count " + few, hall.count(few), oracle.count(few));
                break;
            case 3:
                same("octet " + k, hall.octet(k), oracle.octet(k));
                break;
            case 4:
                same("wheel " + few, hall.wheel(few), oracle.wheel(few));
                break;
            case 5:
                same("letter " + i + " " + few, hall.letter(i, few), oracle.letter(i, few));
                break;
            case 6:
                same("letter " + (bell + few * 10) + " 0", hall.letter(bell + few * 10, 0), oracle.letter(bell + few * 10, 0));
                break;
            case 7:
            case 8:
                same("thing " + i + " " + what, hall.thing(i, what), oracle.thing(i, what));
                break;
            case 9:
            case 10:
                same("thing " + bell + " " + what, hall.thing(bell, what), oracle.thing(bell, what));
                break;
            case 11:
                same("strike " + k + " " + few, hall.strike(k, few % 3), oracle.strike(k, few % 3));
                break;
            case 12:
                same("strike " + few + " " + few % 3, hall.strike(few, few % 3), oracle.strike(few, few % 3));
                break;
            case 13:
                same("value " + i + " 0", hall.value(i, 0), oracle.value(i, 0));
                break;
            default:
                same("value " + i + " " + ago, hall.value(i, ago), oracle.value(i, ago));
        }
    }

    private void run() {
        while (calls < LAST_CHANGE && Check.wrong() == 0) {
            act();
            for (int k = 0; k < 8; k++) look();
        }
        while (calls < MOST_CALLS && Check.wrong() == 0) look();
        Check.due("calls", calls <= MOST_CALLS, true);
    }

    public static void main(String[] args) {
        long from = args.length > 0 ? Long.parseLong(args[0]) : 1;
        long runs = args.length > 1 ? Long.parseLong(args[1]) : 6000;
        for (long seed = from; seed < from + runs && Check.wrong() == 0; seed++) {
            new RandomRunsTest(seed).run();
        }
        Check.close("RandomRunsTest");
    }
}
