/** Terms, part 3, and promises 12 to 16: tick, strike, ask, told, await. */
public final class TicksTest {
    private static void ticks() {
        TurningHall hall = new TurningHall();
        Check.plan(hall, "part a:int=1 then a+b;show s:int=a*10;part b:int=a then a;bell r when a%2==0;part k:long=ticks then ticks;part o:int=0 then old(b)-old(a);");
        long[][] due = {{1, 10, 1, 0, 0}, {2, 20, 2, 1, 0}, {4, 40, 4, 2, 0}, {8, 80, 8, 3, 0}};
        for (int t = 0; t < 4; t++) {
            for (int i = 0; i < 5; i++) Check.due("thing " + i + " at tick " + t, hall.value(i, 0), due[t][i]);
            Check.due("tick(1)", hall.tick(1), t + 1);
        }
        Check.due("tick(0)", hall.tick(0), 4);
        Check.due("tick(-1)", hall.tick(-1), -1);
        Check.due("tick(501)", hall.tick(501), -1);
        Check.due("tick(500)", hall.tick(500), 504);
        Check.due("ticks", hall.value(3, 0), 504);
        // All by values as they are by then: what stands ahead is new, what stands behind is not yet.
        Check.plan(hall, "part a:int=0 then b;part b:int=5 then b+1;show c:int=b;part d:int=0 then old(b);part e:int=0 then old(f);part f:int=7 then 9;");
        hall.tick(1);
        long[] one = {5, 6, 6, 5, 7, 9};
        for (int i = 0; i < 6; i++) Check.due("thing " + i, hall.value(i, 0), one[i]);
        // A tick wraps and saturates as its sort does.
        Check.plan(hall, "part b:byte=(byte)127 then (byte)(b+1);part c:char=(char)0 then (char)(c-1);part f:float=1p127f then f*2f;part d:double=1 then (float)d;");
        hall.tick(1);
        Check.due("byte", hall.value(0, 0), -128);
        Check.due("char", hall.value(1, 0), 65535);
        Check.due("float stays", hall.value(2, 0), Check.bits(Math.scalb(1f, 127)));
        Check.due("double", hall.value(3, 0), Check.bits(1.0));
        // What comes to a thing becomes of its sort.
        Check.plan(hall, "part f:float=16777217 then 9223372036854775807l;part d:double=0.1f then f;show l:long=(byte)-3;show i:int=(char)-1;show s:short=(byte)-7;");
        Check.due("int to float", hall.value(0, 0), Check.bits(16777216f));
        Check.due("float to double", hall.value(1, 0), Check.bits((double) 0.1f));
        Check.due("byte to long", hall.value(2, 0), -3);
        Check.due("char to int", hall.value(3, 0), 65535);
        Check.due("byte to short", hall.value(4, 0), -7);
        hall.tick(1);
        Check.due("long to float", hall.value(0, 0), Check.bits(9223372036854775807f));
        Check.due("float to double", hall.value(1, 0), Check.bits(9223372036854775808.0));
    }

    private static void jams() {
        TurningHall hall = new TurningHall();
        String text = "part a:int=1/0 then 7/(3-(int)ticks);show s:double=1.0/a;cam c=1;bell r when c[(int)ticks]>0.0;part f:float=(float)1p200 then (float)(f+1p300);";
        Check.plan(hall, text);
        int slash = text.indexOf('/');
        Check.due("a is 0", hall.value(0, 0), 0);
        Check.due("a's JAMS", hall.thing(0, 3), 1);
        Check.due("a's kind", hall.thing(0, 4), 1);
        Check.due("a's place", hall.thing(0, 5), slash);
        Check.due("s is 0", hall.value(1, 0), 0);
        Check.due("s's JAMS", hall.thing(1, 3), 1);
        Check.due("s's kind", hall.thing(1, 4), 2);
        Check.due("s's place", hall.thing(1, 5), text.indexOf("/a;"));
        Check.due("f's kind", hall.thing(2, 4), 3);
        Check.due("f's place", hall.thing(2, 5), text.indexOf("(float)1p200"));
        Check.due("r's JAMS", hall.thing(100, 3), 0);
        Check.due("r's place", hall.thing(100, 5), -1);
        hall.tick(1);
        Check.due("a turns", hall.value(0, 0), 3);
        Check.due("a's JAMS stay", hall.thing(0, 3), 1);
        Check.due("a's kind stays", hall.thing(0, 4), 1);
        Check.due("s", hall.value(1, 0), Check.bits(1.0 / 3));
        Check.due("r's JAMS", hall.thing(100, 3), 1);
        Check.due("r's kind", hall.thing(100, 4), 4);
        Check.due("r's place", hall.thing(100, 5), text.indexOf("[(int)"));
        Check.due("r's COUNT", hall.thing(100, 6), 0);
        Check.due("f's JAMS", hall.thing(2, 3), 2);
        Check.due("f's place", hall.thing(2, 5), text.indexOf("(float)(f+"));
        hall.tick(2);
        Check.due("a stays as it was", hall.value(0, 0), 7);
        Check.due("a's JAMS", hall.thing(0, 3), 2);
        Check.due("a's place", hall.thing(0, 5), text.indexOf("/(3-"));
        Check.due("a's past", hall.value(0, 1), 7);
        Check.due("f's JAMS", hall.thing(2, 3), 4);
        Check.due("set leaves JAMS", hall.set(0, 1) && hall.thing(0, 3) == 2, true);
        Check.plan(hall, "part a:truth=1/0==1 then a;");
        Check.due("false, if it jams", hall.value(0, 0), 0);
        Check.due("JAMS are new with a plan", hall.thing(0, 3), 1);
        Check.gives(hall, "old(a)", 0, 0);
        Check.plan(hall, "part a:int=1 then a;");
        Check.due("no JAMS", hall.thing(0, 3), 0);
        Check.due("no kind", hall.thing(0, 4), 0);
        Check.due("no place", hall.thing(0, 5), -1);
    }

    private static void strikes() {
        TurningHall hall = new TurningHall();
        Check.plan(hall, "bell two when ticks%2==0;part a:int=0 then a+1;bell three when a%3==0;bell never when a<0;bell jam when 1/(a-a)==0;");
        hall.tick(6);
        long[][] due = {{6, 1}, {6, 0}, {4, 0}, {3, 1}, {2, 0}};
        for (int k = 0; k < 5; k++) {
            Check.due("strike(" + k + ", 0)", hall.strike(k, 0), due[k][0]);
            Check.due("strike(" + k + ", 1)", hall.strike(k, 1), due[k][1]);
            Check.due("strike(" + k + ", 2)", hall.strike(k, 2), -1);
            Check.due("strike(" + k + ", -1)", hall.strike(k, -1), -1);
        }
        Check.due("strike(5, 0)", hall.strike(5, 0), -1);
        Check.due("strike(-1, 0)", hall.strike(-1, 0), -1);
        Check.due("count(5)", hall.count(5), 5);
        Check.due("COUNT of two", hall.thing(100, 6), 3);
        Check.due("COUNT of three", hall.thing(101, 6), 2);
        Check.due("COUNT of never", hall.thing(102, 6), 0);
        Check.due("JAMS of jam", hall.thing(103, 3), 6);
        hall.tick(194);
        Check.due("64 are kept", hall.count(5), 64);
        Check.due("COUNT goes on", hall.thing(100, 6), 100);
        Check.due("COUNT goes on", hall.thing(101, 6), 66);
        Check.due("the latest", hall.strike(0, 0), 200);
        Check.due("its bell", hall.strike(0, 1), 0);
        Check.due("the one before", hall.strike(1, 0), 198);
        Check.due("its bell", hall.strike(1, 1), 1);
        Check.due("the 64th", hall.strike(63, 0) >= 104, true);
        Check.due("the 65th", hall.strike(64, 0), -1);
    }

    private static void asks() {
        TurningHall hall = new TurningHall();
        Check.plan(hall, "part a:int=5 then a+1;part t:truth=true then !t;part f:float=-1f then f;");
        Check.gives(hall, "a", 4, 5);
        Check.gives(hall, "old(a)", 4, 5);
        hall.tick(2);
        Check.gives(hall, "a*100+old(a)", 4, 706);
        Check.gives(hall, "t", 0, 1);
        Check.gives(hall, "old(t)", 0, 0);
        Check.gives(hall, "f", 6, Check.bits(-1f));
        Check.gives(hall, "ticks", 5, 2);
        Check.due("a jam", Check.ask(hall, "a/0"), 9);
        Check.due("told() stays", hall.told(), 2);
        Check.due("it asks alone", hall.thing(0, 3), 0);
        Check.due("a fault", Check.ask(hall, "a+"), -3);
        Check.due("told() stays", hall.told(), 2);
        Check.due("fault()", hall.fault(), 1);
        Check.gives(hall, "a", 4, 7);
        Check.due("fault() is over", hall.fault(), 0);
        Check.due("nothing ticks", hall.tick(0), 2);
        Check.plan(hall, "");
        Check.due("told() stays with a new plan", hall.told(), 7);
        Check.due("an empty tape", hall.ask(), -1);
        Check.due("fault()", hall.fault(), 1);
    }

    private static void awaits() {
        TurningHall hall = new TurningHall();
        Check.plan(hall, "part a:int=0 then a+1;bell r when a==3;");
        Check.due("true at once", Check.await(hall, "a==0", 10), 0);
        Check.due("no tick", hall.tick(0), 0);
        Check.due("after 4", Check.await(hall, "a==4", 10), 4);
        Check.due("4 ticks", hall.tick(0), 4);
        Check.due("the bell struck", hall.count(5), 1);
        Check.due("just in time", Check.await(hall, "a==6", 2), 2);
        Check.due("not true then", Check.await(hall, "a==100", 3), -2);
        Check.due("what was ticked stays", hall.tick(0), 9);
        Check.due("n 0, true", Check.await(hall, "a==9", 0), 0);
        Check.due("n 0, not true", Check.await(hall, "a==10", 0), -2);
        Check.due("no tick", hall.tick(0), 9);
        Check.due("it jams", Check.await(hall, "1/(12-a)<0", 10), -3);
        Check.due("what was ticked stays", hall.tick(0), 12);
        Check.due("fault()", hall.fault(), 0);
        Check.due("a fault", Check.await(hall, "a=", 10), -1);
        Check.due("fault()", hall.fault(), 1);
        Check.due("n -1", Check.await(hall, "a==12", -1), -1);
        Check.due("fault() stays", hall.fault(), 1);
        Check.due("the tape is empty", hall.count(4), 0);
        Check.due("n 501", Check.await(hall, "a==12", 501), -1);
        Check.due("the tape is empty", hall.count(4), 0);
        Check.due("no TRUTH", Check.await(hall, "a", 10), -1);
        Check.due("fault()", hall.fault(), 4);
        Check.due("no such NAME", Check.await(hall, "zz", 10), -1);
        Check.due("fault()", hall.fault(), 3);
        Check.due("too much", Check.await(hall, "1" + "+1".repeat(250) + "==1", 10), -1);
        Check.due("fault()", hall.fault(), 2);
        Check.due("nothing ticked", hall.tick(0), 12);
        Check.gives(hall, "17", 4, 17);
        Check.due("500", Check.await(hall, "a==512", 500), 500);
        Check.due("fault() is over", hall.fault(), 0);
        Check.due("told() is ask's", hall.told(), 17);
    }

    public static void main(String[] args) {
        ticks();
        jams();
        strikes();
        asks();
        awaits();
        Check.close("TicksTest");
    }
}
