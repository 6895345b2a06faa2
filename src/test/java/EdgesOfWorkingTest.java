import java.lang.reflect.Field;

/** Each sentence of "Terms", part 3 (WORKING), at its bounds. */
public final class EdgesOfWorkingTest {
    private static void fromTheLeft() {
        Check.sentence("Parts are worked out from the left, then the sign;");
        Check.jams("1/0+1.0/0.0", 1);
        Check.jams("1.0/0.0+1/0", 2);
        Check.jams("(1/0)/0.0", 1);
        Check.jams("1.0/0.0/(1/0)", 2);
        Check.jams("1/(1.0/0.0)", 2);
        Check.jams("least(1%0,1.0%0.0)", 1);
        Check.jams("gcd(1.0%0.0,1%0)", 2);
        Check.jams("(float)1p200/0.0", 3);
        Check.jams("1.0/0.0<1/0", 2);
        TurningHall hall = Check.hall("part a:int=1/0+1%0 then 1;part b:int=(1+2)/(3-3)*(4%0) then 1;cam c=1;part d:double=c[1]+c[1/0] then 1;part e:double=c[1/0] then 1;");
        int[] kinds = {1, 1, 4, 1};
        String text = "part a:int=1/0+1%0 then 1;part b:int=(1+2)/(3-3)*(4%0) then 1;cam c=1;part d:double=c[1]+c[1/0] then 1;part e:double=c[1/0] then 1;";
        int[] places = {text.indexOf("/0+"), text.indexOf("/(3"), text.indexOf("[1]"), text.lastIndexOf("/0]")};
        for (int k = 0; k < 4; k++) {
            Check.due("kind of " + k, hall.thing(k, 4), kinds[k]);
            Check.due("place of " + k, hall.thing(k, 5), places[k]);
        }
    }

    private static void notWorkedOut() {
        Check.sentence("but of && the right one only if the left is true, of || only if it is false, of ? one of the two.");
        Check.isTruth("false&&1/0==1", false);
        Check.jams("true&&1/0==1", 1);
        Check.isTruth("true||1/0==1", true);
        Check.jams("false||1/0==1", 1);
        Check.jams("1/0==1&&false", 1);
        Check.jams("1/0==1||true", 1);
        Check.isTruth("false&&1/0==1||true", true);
        Check.isTruth("true||1/0==1&&1/0==1", true);
        Check.isTruth("false&&(1/0==1||true)", false);
        Check.isTruth("false&&1/0==1&&1/0==1", false);
        Check.jams("false&&1/0==1||1/0==1", 1);
        Check.isTruth("true&&true", true);
        Check.isTruth("false||true", true);
        Check.isInt("true?1:1/0", 1);
        Check.isInt("false?1/0:2", 2);
        Check.jams("true?1/0:2", 1);
        Check.jams("false?1:1/0", 1);
        Check.jams("1/0==1?1:2", 1);
        Check.isInt("true?true?1:1/0:1/0", 1);
        Check.isInt("false?1/0:false?1/0:3", 3);
        Check.isDouble("true?1:1.0/0.0", 1);
        Check.isTruth("true?false:1/0==1", false);
        Check.isInt("(true?1:1/0)+(false?1/0:2)", 3);
        Check.isInt("(false&&1/0==1)?1/0:(true||1/0==1)?5:1/0", 5);
        // Beside a cam with one NUMBER nothing takes a truth for an index.
        Halls halls = new Halls("cam c=5;");
        for (int k = 0; k < 8; k++) {
            boolean x = k % 2 == 1;
            boolean y = k / 2 % 2 == 1;
            boolean z = k / 4 == 1;
            Check.gives(halls, x + "&&" + y + "&&" + z, 0, x && y && z ? 1 : 0);
            Check.gives(halls, x + "||" + y + "||" + z, 0, x || y || z ? 1 : 0);
            Check.gives(halls, "(" + x + "||" + y + ")&&" + z, 0, (x || y) && z ? 1 : 0);
            Check.gives(halls, x + "?" + y + ":" + z, 0, (x ? y : z) ? 1 : 0);
        }
    }

    private static void turnedRound() {
        Check.sentence("- x of a real turns its sign round.");
        Check.isDouble("-0.0", -0.0);
        Check.isDouble("--0.0", 0.0);
        Check.isDouble("-(0.0-0.0)", -0.0);
        Check.isDouble("-(-2.5)", 2.5);
        Check.isDouble("-1p-1074", -Double.MIN_VALUE);
        Check.isDouble("-(1p1023*1.5)", -Math.scalb(1.5, 1023));
        Check.isFloat("-0f", -0f);
        Check.isFloat("--0f", 0f);
        Check.isFloat("-1.5f", -1.5f);
        Check.isInt("-0", 0);
    }

    private static void toWholes() {
        Check.sentence("floor, ceil, rint (halves to even) keep -0 (and give -0 where a number below 0 comes to 0).");
        double[] all = {0.0, -0.0, 0.25, -0.25, 0.5, -0.5, 0.75, -0.75, 1.0, -1.0, 1.5, -1.5, 2.5, -2.5, 3.5, -3.5, 2.4999, -2.4999, 2.5001, -2.5001, Double.MIN_VALUE, -Double.MIN_VALUE,
            Math.nextDown(0.5), -Math.nextDown(0.5), Math.nextUp(0.5), -Math.nextUp(0.5), Math.nextDown(1.0), -Math.nextDown(1.0), 2147483647.5, -2147483648.5, 2251799813685248.5,
            -2251799813685248.5, 2251799813685249.5, -2251799813685249.5, 4503599627370495.5, -4503599627370495.5, 4503599627370496.0, -4503599627370496.0, 4503599627370497.0,
            9007199254740991.0, -9007199254740993.0, 9.3e18, -9.3e18, Double.MAX_VALUE, -Double.MAX_VALUE, Math.nextDown(4503599627370496.0), 1e15 + 0.5, -1e15 - 0.5};
        Halls halls = new Halls("part x:double=0 then x;");
        for (double x : all) {
            TurningHall hall = halls.of(16);
            hall.set(0, Check.bits(x));
            Check.gives(hall, "floor(x)", 7, Check.bits(Math.floor(x)));
            Check.gives(hall, "ceil(x)", 7, Check.bits(Math.ceil(x)));
            Check.gives(hall, "rint(x)", 7, Check.bits(Math.rint(x)));
        }
        // The words themselves, beside Java's own functions.
        Check.isDouble("floor(-0.0)", -0.0);
        Check.isDouble("floor(0.5)", 0.0);
        Check.isDouble("floor(-0.5)", -1);
        Check.isDouble("ceil(-0.0)", -0.0);
        Check.isDouble("ceil(-0.5)", -0.0);
        Check.isDouble("ceil(0.5)", 1);
        Check.isDouble("rint(-0.0)", -0.0);
        Check.isDouble("rint(-0.5)", -0.0);
        Check.isDouble("rint(-0.25)", -0.0);
        Check.isDouble("rint(0.5)", 0.0);
        Check.isDouble("rint(1.5)", 2);
        Check.isDouble("rint(2.5)", 2);
        Check.isDouble("rint(-2.5)", -2);
        Check.isDouble("rint(-1.5f)", -2);
    }

    private static void leasts() {
        Check.sentence("least, most of reals: -0 is below 0.");
        Check.isDouble("least(-0.0,0.0)", -0.0);
        Check.isDouble("least(0.0,-0.0)", -0.0);
        Check.isDouble("least(0.0,0.0)", 0.0);
        Check.isDouble("most(-0.0,0.0)", 0.0);
        Check.isDouble("most(0.0,-0.0)", 0.0);
        Check.isDouble("most(-0.0,-0.0)", -0.0);
        Check.isFloat("least(0f,-0f)", -0f);
        Check.isFloat("most(-0f,0f)", 0f);
        Check.isFloat("least(-0f,0)", -0f);
        Check.isDouble("least(1p-1074,-0.0)", -0.0);
        Check.isDouble("most(-1p-1074,-0.0)", -0.0);
        Check.isDouble("least(-1.5,2.5)", -1.5);
        Check.isDouble("least(2.5,-1.5)", -1.5);
        Check.isDouble("most(-1.5,2.5)", 2.5);
        Check.isDouble("most(2.5,-1.5)", 2.5);
        Check.isInt("least(3,-2147483647-1)", Integer.MIN_VALUE);
        Check.isLong("most(-9223372036854775807l,9223372036854775807l)", Long.MAX_VALUE);
        Check.isInt("most(-3,-2)", -2);
    }

    private static void gcds() {
        Check.sentence("gcd(a, b): both without sign; as long as b is not 0: a, b become b, a % b; then a.");
        Check.isDouble("gcd(0,0)", 0.0);
        Check.isDouble("gcd(-0.0,-0.0)", 0.0);
        Check.isDouble("gcd(-0.0,0.0)", 0.0);
        Check.isDouble("gcd(0,5)", 5);
        Check.isDouble("gcd(-5,0)", 5);
        Check.isDouble("gcd(-5,-0.0)", 5);
        Check.isDouble("gcd(12,18)", 6);
        Check.isDouble("gcd(18,12)", 6);
        Check.isDouble("gcd(-12,18)", 6);
        Check.isDouble("gcd(12,-18)", 6);
        Check.isDouble("gcd(-12,-18)", 6);
        Check.isDouble("gcd(7,13)", 1);
        Check.isDouble("gcd(0.75,0.5)", 0.25);
        Check.isDouble("gcd(1p1023,1p-1074)", Double.MIN_VALUE);
        Check.isDouble("gcd(1p-1074,1p1023)", Double.MIN_VALUE);
        Check.isDouble("gcd(1p1023,3)", 1);
        // Of neighbours in the row of sums (each the sum of the two ahead) it takes longest.
        Check.isDouble("gcd(5527939700884757l,8944394323791464l)", 1);
        double a = 0.3;
        double b = 0.1;
        while (b != 0) {
            double c = a % b;
            a = b;
            b = c;
        }
        Check.isDouble("gcd(0.3,0.1)", a);
        Check.isDouble("gcd(0.1,0.3)", a);
    }

    private static void olds() {
        Check.sentence("old(NAME): what the thing was ahead of the latest tick (at first, and behind set(), what it is).");
        TurningHall hall = Check.hall("part a:int=5 then a+1;show s:int=a*10;part o:int=7 then old(a)*100+a;part t:truth=true then !t;part f:float=-0f then f;part d:double=0.1 then d*2;");
        Check.gives(hall, "old(a)", 4, 5);
        Check.gives(hall, "old(s)", 4, 50);
        Check.gives(hall, "old(t)", 0, 1);
        Check.gives(hall, "old(f)", 6, Check.bits(-0f));
        Check.gives(hall, "old(d)", 7, Check.bits(0.1));
        hall.tick(1);
        Check.gives(hall, "old(a)", 4, 5);
        Check.gives(hall, "a", 4, 6);
        Check.gives(hall, "old(s)", 4, 50);
        Check.gives(hall, "s", 4, 60);
        Check.gives(hall, "o", 4, 506);
        Check.gives(hall, "old(o)", 4, 7);
        Check.gives(hall, "old(t)", 0, 1);
        Check.gives(hall, "old(d)", 7, Check.bits(0.1));
        Check.due("set(0, 90)", hall.set(0, 90), true);
        Check.gives(hall, "old(a)", 4, 90);
        Check.gives(hall, "old(s)", 4, 50);
        Check.due("set(3, 0)", hall.set(3, 0), true);
        Check.gives(hall, "old(t)", 0, 0);
        Check.due("set(4)", hall.set(4, Check.bits(2.5f)), true);
        Check.gives(hall, "old(f)", 6, Check.bits(2.5f));
        hall.tick(1);
        Check.gives(hall, "old(a)", 4, 90);
        Check.gives(hall, "o", 4, 9091);
        hall.tick(2);
        Check.gives(hall, "old(a)", 4, 92);
        // In the formula behind = it is what the thing has just become.
        Check.plan(hall, "part a:int=3 then 4;part b:int=old(a) then old(b)+1;show c:int=old(b);");
        Check.due("b at first", hall.value(1, 0), 3);
        Check.due("c at first", hall.value(2, 0), 3);
        Check.due("a refused set", hall.set(2, 9), false);
        Check.gives(hall, "old(c)", 4, 3);
        hall.tick(1);
        Check.due("b", hall.value(1, 0), 4);
        Check.due("c", hall.value(2, 0), 3);
        // At each tick anew, of all sorts.
        TurningHall all = Check.hall("part t:truth=true then !t;part b:byte=(byte)1 then (byte)(b*2);part c:char=(char)1 then (char)(c*3);part i:int=1 then i*5;"
            + "part l:long=1 then l*7;part f:float=1 then f*0.5f;part d:double=1 then d*0.25;show s:double=d*2;");
        String[] names = {"t", "b", "c", "i", "l", "f", "d", "s"};
        int[] sorts = {0, 1, 3, 4, 5, 6, 7, 7};
        for (int tick = 1; tick < 4; tick++) {
            all.tick(1);
            for (int k = 0; k < 8; k++) Check.gives(all, "old(" + names[k] + ")", sorts[k], all.value(k, 1));
        }
        Check.due("d ahead of tick 3", all.value(6, 1), Check.bits(0.0625));
        Check.due("f ahead of tick 3", all.value(5, 1), Check.bits(0.25f));
        Check.due("i ahead of tick 3", all.value(3, 1), 25);
    }

    private static void indexes() {
        Check.sentence("A cam's index is from 0 on.");
        TurningHall hall = Check.hall("cam c=10,11,12;");
        for (int k = 0; k < 3; k++) Check.gives(hall, "c[" + k + "]", 7, Check.bits(10.0 + k));
        Check.due("c[-1]", Check.ask(hall, "c[-1]"), 12);
        Check.due("c[3]", Check.ask(hall, "c[3]"), 12);
    }

    private static void newPlan() {
        Check.sentence("A new plan: ticks are 0, JAMS 0, nothing struck; then as they stand each thing (shows, too) becomes what stands behind its =");
        TurningHall hall = Check.hall("part a:int=1/0 then 1/0;bell b when true;bell j when 1/0==0;");
        hall.tick(5);
        Check.due("JAMS", hall.thing(0, 3), 6);
        Check.due("JAMS of the bell", hall.thing(101, 3), 5);
        Check.due("COUNT", hall.thing(100, 6), 5);
        Check.due("new", Check.plan(hall, "part a:int=(int)ticks+7 then 1/0;show s:int=a*2;bell b when true;bell j when 1/0==0;part c:int=s+1 then 0;cam m=5;show d:double=m[0]+c;"), 4);
        Check.due("ticks", hall.tick(0), 0);
        Check.due("JAMS", hall.thing(0, 3), 0);
        Check.due("kind", hall.thing(0, 4), 0);
        Check.due("place", hall.thing(0, 5), -1);
        for (int bell = 100; bell < 102; bell++) {
            Check.due("JAMS of a bell", hall.thing(bell, 3), 0);
            Check.due("kind of a bell", hall.thing(bell, 4), 0);
            Check.due("place of a bell", hall.thing(bell, 5), -1);
            Check.due("COUNT", hall.thing(bell, 6), 0);
        }
        Check.due("strikes", hall.count(5), 0);
        Check.due("strike(0, 0)", hall.strike(0, 0), -1);
        long[] due = {7, 14, 15, Check.bits(20.0)};
        for (int k = 0; k < 4; k++) Check.due("value(" + k + ", 0)", hall.value(k, 0), due[k]);
        for (int k = 0; k < 4; k++) Check.due("value(" + k + ", 1)", hall.value(k, 1), 0);
    }

    private static void jamAtFirst() {
        Check.sentence("(0, false, if that jams; its JAMS are 1 then, the kind and place told), and its OLD that.");
        String text = "part a:int=1/0 then a;part t:truth=1%0==0 then t;part f:float=(float)1p200 then f;part d:double=1.0/0.0 then d;cam c=1;show x:double=c[7];show y:double=x+2.0;part l:long=3 then l;";
        TurningHall hall = Check.hall(text);
        int[] kinds = {1, 1, 3, 2, 4, 0, 0};
        int[] places = {text.indexOf("/0 then a"), text.indexOf("%0"), text.indexOf("(float)"), text.indexOf("/0.0"), text.indexOf("[7]"), -1, -1};
        long[] values = {0, 0, 0, 0, 0, Check.bits(2.0), 3};
        String[] names = {"a", "t", "f", "d", "x", "y", "l"};
        for (int k = 0; k < 7; k++) {
            Check.due("value(" + k + ", 0)", hall.value(k, 0), values[k]);
            Check.due("JAMS of " + k, hall.thing(k, 3), kinds[k] == 0 ? 0 : 1);
            Check.due("kind of " + k, hall.thing(k, 4), kinds[k]);
            Check.due("place of " + k, hall.thing(k, 5), places[k]);
            Check.gives(hall, "old(" + names[k] + ")", hall.thing(k, 0), values[k]);
        }
        // Not what the plan before had in its place.
        Check.plan(hall, "part a:int=9 then 9;part b:double=9.5 then 9.5;");
        Check.plan(hall, "part a:int=1/0 then 9;part b:double=1.0/0.0 then 9.5;");
        Check.due("0", hall.value(0, 0), 0);
        Check.due("0", hall.value(1, 0), 0);
        Check.gives(hall, "old(a)", 4, 0);
        Check.gives(hall, "old(b)", 7, 0);
    }

    private static void tick() {
        Check.sentence("A TICK: ticks are 1 more; what each thing is now becomes its OLD.");
        TurningHall hall = Check.hall("part k:long=ticks then ticks;part a:int=1 then a+1;show s:int=a;part o:int=0 then old(b)*100+old(s)*10+old(a);part b:int=7 then b+1;bell r when ticks==2&&old(a)==2;");
        Check.due("at first", hall.value(0, 0), 0);
        for (int t = 1; t <= 3; t++) {
            Check.due("tick(1)", hall.tick(1), t);
            Check.due("ticks are 1 more by then", hall.value(0, 0), t);
            Check.due("OLD of all, also of what stands behind", hall.value(3, 0), (6 + t) * 100 + t * 11);
            Check.gives(hall, "ticks", 5, t);
        }
        Check.due("COUNT", hall.thing(100, 6), 1);
    }

    private static void asTheyStand() {
        Check.sentence("Then as they stand: a part becomes what stands behind then, a show what stands behind its =; a bell strikes if what stands behind when is true. All by values as they are by then.");
        TurningHall hall = Check.hall("bell early when a==2;part a:int=1 then a+b;show s:int=a*10;bell mid when a==2;part b:int=1 then a+s;bell late when b==22;show z:int=b;");
        Check.due("a", hall.value(0, 0), 1);
        Check.due("no bell strikes with a new plan", hall.count(5), 0);
        hall.tick(1);
        long[] one = {2, 20, 22, 22};
        for (int k = 0; k < 4; k++) Check.due("thing " + k, hall.value(k, 0), one[k]);
        Check.due("early", hall.thing(100, 6), 0);
        Check.due("mid", hall.thing(101, 6), 1);
        Check.due("late", hall.thing(102, 6), 1);
        hall.tick(1);
        long[] two = {24, 240, 264, 264};
        for (int k = 0; k < 4; k++) Check.due("thing " + k, hall.value(k, 0), two[k]);
        Check.due("early", hall.thing(100, 6), 1);
        Check.due("mid", hall.thing(101, 6), 1);
    }

    private static void jamsOfATick() {
        Check.sentence("What jams leaves its thing as it was, and no bell strikes; its JAMS are 1 more");
        TurningHall hall = Check.hall("part a:int=5 then ticks%2l==0l?a/0:a+1;part b:byte=(byte)1 then (byte)(1/0);show s:int=a/(a-6);bell r when 1/(a-6)<=1;bell q when true;part x:int=0 then x+a;");
        long[] a = {6, 6, 7, 7};
        for (int t = 0; t < 4; t++) {
            hall.tick(1);
            Check.due("a", hall.value(0, 0), a[t]);
            Check.due("JAMS of a", hall.thing(0, 3), (t + 1) / 2);
            Check.due("b", hall.value(1, 0), 1);
            Check.due("JAMS of b", hall.thing(1, 3), t + 1);
            Check.due("s", hall.value(2, 0), t < 2 ? -5 : 7);
            Check.due("JAMS of s", hall.thing(2, 3), Math.min(t + 1, 2));
            Check.due("COUNT of r", hall.thing(100, 6), t < 2 ? 0 : t - 1);
            Check.due("JAMS of r", hall.thing(100, 3), Math.min(t + 1, 2));
            Check.due("the rest goes on", hall.thing(101, 6), t + 1);
        }
        Check.due("x", hall.value(3, 0), 26);
        Check.due("a's past", hall.value(0, 1), 7);
    }

    /** A private row of counts; an empty one where the state is held otherwise, which is free. */
    private static int[] counts(TurningHall hall, String name) {
        try {
            Field now = TurningHall.class.getDeclaredField("now");
            now.setAccessible(true);
            Field row = now.getType().getDeclaredField(name);
            row.setAccessible(true);
            if (row.get(now.get(hall)) instanceof int[] found) return found;
        } catch (ReflectiveOperationException e) {
            System.out.println("there is no field " + e.getMessage());
        }
        System.out.println("there is no row of " + name + ": what is at most 2147483647 is not tried");
        return new int[0];
    }

    private static void mostJams() {
        Check.sentence("(at most 2147483647), the latest kind and the place of its sign in the plan's text (of a cast its ( , of an index its [ ) are kept.");
        String text = "cam c=1;part a:int=1 then ticks==1l?1/0:ticks==2l?(int)(1.0%0.0):ticks==3l?(int)c[9]:ticks==4l?(int)(float)1p300:7;bell b when ticks<3l?1%0==0:ticks==3l;";
        TurningHall hall = Check.hall(text);
        int[] kinds = {1, 2, 4, 3, 3};
        String[] signs = {"/0", "%0.0", "[9]", "(float)", "(float)"};
        for (int t = 0; t < 5; t++) {
            hall.tick(1);
            Check.due("kind", hall.thing(0, 4), kinds[t]);
            Check.due("place", hall.thing(0, 5), text.indexOf(signs[t]));
            Check.due("JAMS", hall.thing(0, 3), Math.min(t + 1, 4));
        }
        Check.due("a bell's kind is kept", hall.thing(100, 4), 1);
        Check.due("a bell's place is kept", hall.thing(100, 5), text.indexOf("%0==0"));
        Check.due("a bell's JAMS", hall.thing(100, 3), 2);
        // So many can't be had by 512 calls: the count is put near its end.
        TurningHall near = Check.hall("part a:int=1/0 then 1%0;bell b when 1/0==0;");
        int[] jams = counts(near, "jams");
        for (int k = 0; k < jams.length; k++) jams[k] = 2147483646;
        for (int t = 0; t < 3 && jams.length > 0; t++) {
            near.tick(1);
            Check.due("a part's JAMS", near.thing(0, 3), 2147483647);
            Check.due("a bell's JAMS", near.thing(100, 3), 2147483647);
        }
    }

    private static void latestStrikes() {
        Check.sentence("STRIKES: the latest 64 are kept: the tick, the bell.");
        TurningHall hall = Check.hall("bell b when ticks!=2l;");
        hall.tick(1);
        for (int n = 1; n <= 75; n++) {
            int kept = Math.min(n, 64);
            Check.due("count(5) of " + n, hall.count(5), kept);
            Check.due("the latest of " + n, hall.strike(0, 0), n == 1 ? 1 : n + 1);
            Check.due("the last that is kept of " + n, hall.strike(kept - 1, 0), n <= 64 ? 1 : n + 1 - 63);
            Check.due("none behind it", hall.strike(kept, 0), -1);
            Check.due("none behind it", hall.strike(kept, 1), -1);
            hall.tick(n == 1 ? 2 : 1);
        }
        Check.plan(hall, "bell c when true;");
        Check.due("of the plan before none", hall.count(5), 0);
        for (int ticks : new int[] {63, 64, 65, 127, 128, 129, 200, 500}) {
            TurningHall many = Check.hall("bell b when true;");
            many.tick(ticks - 1);
            many.tick(1);
            for (int k = 0; k < 64; k++) Check.due("strike " + k + " at " + ticks, many.strike(k, 0), k < ticks ? ticks - k : -1);
            Check.due("none behind 64", many.strike(64, 0), -1);
        }
        // Many in one tick, each with its bell.
        StringBuilder text = new StringBuilder();
        for (int k = 0; k < 12; k++) text.append("bell b").append(k).append(" when ticks%").append(k + 1).append("l==0l;");
        java.util.ArrayList<long[]> due = new java.util.ArrayList<>();
        for (int t = 1; t <= 60; t++) {
            for (int k = 0; k < 12; k++) {
                if (t % (k + 1) == 0) due.add(0, new long[] {t, k});
            }
            while (due.size() > 64) due.remove(64);
            TurningHall twelve = Check.hall(text.toString());
            twelve.tick(t / 2);
            twelve.tick(t - t / 2);
            Check.due("count(5)", twelve.count(5), due.size());
            for (int k = 0; k < due.size(); k++) {
                Check.due("tick of strike " + k, twelve.strike(k, 0), due.get(k)[0]);
                Check.due("bell of strike " + k, twelve.strike(k, 1), due.get(k)[1]);
            }
        }
    }

    private static void mostCount() {
        Check.sentence("A bell's COUNT is at most 2147483647.");
        TurningHall hall = Check.hall("bell a when true;bell b when ticks<3l;");
        hall.tick(500);
        Check.due("COUNT goes on behind 64", hall.thing(100, 6), 500);
        Check.due("COUNT of b", hall.thing(101, 6), 2);
        int[] counts = counts(hall, "counts");
        if (counts.length > 0) counts[0] = 2147483646;
        for (int t = 0; t < 3 && counts.length > 0; t++) {
            hall.tick(1);
            Check.due("a's COUNT", hall.thing(100, 6), 2147483647);
            Check.due("it strikes all the same", hall.strike(0, 0), 501 + t);
        }
    }

    public static void run() {
        fromTheLeft();
        notWorkedOut();
        turnedRound();
        toWholes();
        leasts();
        gcds();
        olds();
        indexes();
        newPlan();
        jamAtFirst();
        tick();
        asTheyStand();
        jamsOfATick();
        latestStrikes();
        mostJams();
        mostCount();
    }

    public static void main(String[] args) {
        run();
        Check.close("EdgesOfWorkingTest");
    }
}
