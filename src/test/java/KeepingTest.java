/** Promises 25 and 26: keep and back. */
public final class KeepingTest {
    private static final String PLAN = "part a:int=1 then a*2;part d:double=step then d+step/(a-4);bell r when a>2;part t:truth=true then 1/(a-8)==0;"
        + "part j:int=1 then ticks%2==0?5/(j-j):(int)(1.0/(d-d));bell all when true;bell jam when 1.0%(d-d)==0.0;";

    /** Much of what is told of the things, bells, ticks and STRIKES (EdgesOfDeskTest looks at all of it). */
    private static String told(TurningHall hall) {
        StringBuilder s = new StringBuilder();
        for (int i = 0; i < 4; i++) {
            for (int ago : new int[] {0, 1, 4, 30, 31}) s.append(hall.value(i, ago)).append(' ');
            for (int what = 3; what < 6; what++) s.append(hall.thing(i, what)).append(' ');
        }
        for (int what = 3; what < 7; what++) s.append(hall.thing(100, what)).append(' ').append(hall.thing(101, what)).append(' ').append(hall.thing(102, what)).append(' ');
        for (int k : new int[] {0, 1, 5, 62, 63, 64}) s.append(hall.strike(k, 0)).append(' ').append(hall.strike(k, 1)).append(' ');
        return s.append(hall.tick(0)).append(' ').append(hall.count(5)).toString();
    }

    private static String olds(TurningHall hall) {
        StringBuilder s = new StringBuilder();
        for (String text : new String[] {"old(a)", "old(d)", "old(t)", "step", "ticks"}) s.append(Check.ask(hall, text)).append(' ').append(hall.told()).append(' ');
        return s.toString();
    }

    public static void main(String[] args) {
        TurningHall hall = new TurningHall();
        Check.due("keep(-1)", hall.keep(-1), false);
        Check.due("keep(4)", hall.keep(4), false);
        Check.due("back(4)", hall.back(4), false);
        Check.due("back(-1)", hall.back(-1), false);
        Check.due("back(0)", hall.back(0), false);
        hall.tick(3);
        Check.due("the empty plan is kept", hall.keep(0), true);
        hall.tick(4);
        Check.due("back(0)", hall.back(0), true);
        Check.due("its ticks", hall.tick(0), 3);
        Check.due("back(1)", hall.back(1), false);
        Check.plan(hall, "");
        Check.due("another empty plan", hall.back(0), false);
        Check.due("its ticks", hall.tick(0), 0);

        Check.plan(hall, PLAN);
        hall.step(Check.bits(0.5));
        hall.tick(4);
        String first = told(hall);
        String firstOld = olds(hall);
        Check.due("keep(0)", hall.keep(0), true);
        hall.step(Check.bits(2.0));
        hall.tick(105);
        hall.set(0, 100);
        String second = told(hall);
        String secondOld = olds(hall);
        Check.due("keep(3)", hall.keep(3), true);
        hall.dial(Check.bits(7.0), 0);
        hall.train(Check.bits(1.0), 1, 4, 5);
        Check.gives(hall, "77", 4, 77);
        hall.feed(0, 0, 0, 0, 0);
        Check.due("back(0)", hall.back(0), true);
        Check.due("what was kept first", told(hall), first);
        Check.due("told() is not kept", hall.told(), 77);
        Check.due("TEXT is not kept", hall.count(6), 1);
        Check.due("wheels are not kept", hall.count(7), 2);
        Check.due("the tape is not kept", hall.count(4), 20);
        Check.due("its OLD and STEP", olds(hall), firstOld);

        TurningHall other = new TurningHall();
        Check.plan(other, PLAN);
        other.step(Check.bits(0.5));
        other.tick(4);
        other.keep(0);
        other.tick(5);
        other.back(0);
        other.tick(7);
        TurningHall straight = new TurningHall();
        Check.plan(straight, PLAN);
        straight.step(Check.bits(0.5));
        straight.tick(11);
        Check.due("it goes on as it would have", told(other), told(straight));
        Check.due("it stays kept", other.back(0), true);
        Check.due("what was kept", told(other), first);

        Check.due("back(3)", hall.back(3), true);
        Check.due("what was kept second", told(hall), second);
        Check.due("its OLD and STEP", olds(hall), secondOld);
        Check.due("keep(0) anew", hall.keep(0), true);
        hall.tick(70);
        Check.due("back(0)", hall.back(0), true);
        Check.due("instead of what was kept there", told(hall), second);

        hall = new TurningHall();
        Check.plan(hall, PLAN);
        hall.keep(0);
        hall.keep(3);
        Check.due("a refused plan", Check.plan(hall, "part"), -5);
        Check.due("keeps it", hall.back(0), true);
        Check.plan(hall, PLAN);
        Check.due("the same text read anew", hall.back(0), false);
        Check.due("the same text read anew", hall.back(3), false);
        Check.due("nothing came back", hall.tick(0), 0);
        Check.due("keep(0)", hall.keep(0), true);
        Check.due("back(0)", hall.back(0), true);
        Check.close("KeepingTest");
    }
}
