import java.lang.management.ManagementFactory;

/** What a run of 512 of the dearest calls makes: a hall makes its rows once and uses them again. */
public final class RoomTest {
    private static final com.sun.management.ThreadMXBean BEAN = (com.sun.management.ThreadMXBean) ManagementFactory.getThreadMXBean();

    private static long made() {
        return BEAN.getThreadAllocatedBytes(Thread.currentThread().getId());
    }

    /** 150 feeds of a plan with very much in it; what the test itself makes is made ahead. */
    private static int[] largePlan() {
        StringBuilder text = new StringBuilder("cam c=1,2,3;");
        for (int k = 0; k < 40; k++) text.append("part t").append(k).append(":double=").append(k).append(" then t").append(k).append("%0.7+gcd(1.5,c[1]);");
        for (int k = 0; k < 12; k++) text.append("bell b").append(k).append(" when t1<2.0;");
        return Check.numbers(text.toString());
    }

    private static void feed(TurningHall hall, int[] five) {
        for (int k = 0; k < five.length; k += 5) hall.feed(five[k], five[k + 1], five[k + 2], five[k + 3], five[k + 4]);
    }

    private static long run(int[] plan, int[] asked) {
        long before = made();
        TurningHall hall = new TurningHall();
        feed(hall, plan);
        Check.due("plan", hall.plan(), 40);
        for (int k = 0; k < 25; k++) {
            hall.feed(0x70617274, 0, 0, 0, 0);
            Check.due("a refused plan", hall.plan() < 0, true);
            hall.tick(k % 20);
            hall.keep(k % 4);
            hall.back(k % 4);
            hall.value(k % 40, 3);
            hall.dial(k, 18);
            hall.train(Double.doubleToRawLongBits(1.0 + k / 37.0), 2, 10, 40);
            feed(hall, asked);
            hall.ask();
            feed(hall, asked);
            hall.await(20);
        }
        return made() - before;
    }

    public static void main(String[] args) {
        int[] plan = largePlan();
        int[] asked = Check.numbers("t0+t1*2.0>c[2]");
        run(plan, asked);
        long bytes = run(plan, asked);
        System.out.println("a run makes " + bytes + " bytes");
        // 7.3 million fields and elements are the room; here all of them are some 50,000, of 8 bytes at most.
        Check.due("a run makes little", bytes < 600000, true);
        long before = made();
        TurningHall refused = new TurningHall();
        for (int k = 0; k < 250; k++) {
            refused.feed(0x70617274, 0, 0, 0, 0);
            refused.plan();
        }
        Check.due("plans that are refused make little", made() - before < 600000, true);
        before = made();
        new TurningHall();
        Check.due("a new hall is small", made() - before < 200000, true);
        Check.close("RoomTest");
    }
}
