/** Promise 1: an empty tape and plan, STEP 1.0, nothing kept, no TEXT; and the constant. */
public final class NewObjectTest {
    public static void main(String[] args) {
        Check.due("NONE", TurningHall.NONE, -1);
        TurningHall hall = new TurningHall();
        for (int what = 0; what <= 7; what++) Check.due("count(" + what + ")", hall.count(what), 0);
        Check.due("fault()", hall.fault(), 0);
        Check.due("told()", hall.told(), 0);
        Check.due("value(0, 0)", hall.value(0, 0), 0);
        Check.due("thing(0, 0)", hall.thing(0, 0), -1);
        Check.due("thing(100, 2)", hall.thing(100, 2), -1);
        Check.due("letter(0, 0)", hall.letter(0, 0), -1);
        Check.due("letter(200, 0)", hall.letter(200, 0), -1);
        Check.due("octet(0)", hall.octet(0), -1);
        Check.due("wheel(0)", hall.wheel(0), 0);
        Check.due("strike(0, 0)", hall.strike(0, 0), -1);
        for (int place = 0; place < 4; place++) Check.due("back(" + place + ")", hall.back(place), false);
        Check.gives(hall, "step", 7, Check.bits(1.0));
        Check.gives(hall, "ticks", 5, 0);
        Check.due("tick(0)", hall.tick(0), 0);
        Check.due("tick(2) of the empty plan", hall.tick(2), 2);
        Check.due("set(0, 1)", hall.set(0, 1), false);
        Check.due("a second hall is its own", new TurningHall().tick(1), 1);
        Check.close("NewObjectTest");
    }
}
