/** Promises 2 to 11: feed, end, plan, fault, count, thing, letter, value, set, step. */
public final class TextsTest {
    private static void tape() {
        TurningHall hall = new TurningHall();
        Check.due("end(0)", hall.end(0), 0);
        Check.due("end(1) of an empty tape", hall.end(1), -1);
        Check.due("end(-1)", hall.end(-1), -1);
        Check.due("the first feed", hall.feed(0x31202020, 0, 0, 0, -1), 20);
        Check.due("end(21)", hall.end(21), -1);
        Check.due("it stays", hall.count(4), 20);
        Check.due("end(1)", hall.end(1), 1);
        Check.due("count(4)", hall.count(4), 1);
        Check.due("a feed behind it", hall.feed(0x2b320000, 0, 0, 0, 0), 21);
        Check.due("end(3)", hall.end(3), 3);
        Check.due("1+2", hall.ask(), 4);
        Check.due("told", hall.told(), 3);
        Check.due("the tape is empty then", hall.count(4), 0);
        // The highest byte of each number is the first: "12345678901234567890" cut to 9 is 123456789.
        hall.feed(0x31323334, 0x35363738, 0x39303132, 0x33343536, 0x37383930);
        hall.end(9);
        Check.due("123456789", hall.ask(), 4);
        Check.due("told", hall.told(), 123456789);
        for (int k = 1; k <= 150; k++) Check.due("feed " + k, hall.feed(0x20202020, 0x20202020, 0x20202020, 0x20202020, 0x20202020), 20L * k);
        Check.due("feed 151", hall.feed(0, 0, 0, 0, 0), -1);
        Check.due("count(4)", hall.count(4), 3000);
        Check.due("end(2981)", hall.end(2981), 2981);
        Check.due("3001 would be too many", hall.feed(0, 0, 0, 0, 0), -1);
        Check.due("end(2980)", hall.end(2980), 2980);
        Check.due("3000 are not", hall.feed(0x20202020, 0x20202020, 0x20202020, 0x20202020, 0x20202020), 3000);
        Check.due("blanks are an empty plan", hall.plan(), 0);
        Check.due("count(4)", hall.count(4), 0);
        // Bytes above 127 are held as they are: one begins no token.
        hall.feed(0xff202020, 0, 0, 0, 0);
        Check.due("byte 255", hall.plan(), -1);
        Check.due("fault", hall.fault(), 1);
    }

    private static void plans() {
        TurningHall hall = new TurningHall();
        Check.due("plan", Check.plan(hall, "part ab : int = 1 then ab + 2; cam c = 1, -0; bell ring when ab > 3; show S9 : double = c[0] + ab;"), 2);
        Check.due("fault", hall.fault(), 0);
        int[] counts = {2, 1, 2, 11, 0, 0, 0, 0};
        counts[2] = 1;
        for (int k = 0; k < 8; k++) Check.due("count(" + k + ")", hall.count(k), counts[k]);
        Check.due("count(8)", hall.count(8), -1);
        Check.due("count(-1)", hall.count(-1), -1);
        int[] first = {4, 1, 2, 0, 0, -1, -1, -1};
        int[] second = {7, 0, 2, 0, 0, -1, -1, -1};
        int[] bell = {-1, -1, 4, 0, 0, -1, 0, -1};
        for (int what = -1; what < 7; what++) {
            Check.due("thing(0, " + what + ")", hall.thing(0, what), what < 0 ? -1 : first[what]);
            Check.due("thing(1, " + what + ")", hall.thing(1, what), what < 0 ? -1 : second[what]);
            Check.due("thing(100, " + what + ")", hall.thing(100, what), what < 0 ? -1 : bell[what]);
            Check.due("thing(2, " + what + ")", hall.thing(2, what), -1);
            Check.due("thing(99, " + what + ")", hall.thing(99, what), -1);
            Check.due("thing(101, " + what + ")", hall.thing(101, what), -1);
            Check.due("thing(200, " + what + ")", hall.thing(200, what), -1);
            Check.due("thing(-1, " + what + ")", hall.thing(-1, what), -1);
        }
        String[] names = {"ab", "S9", "ring", "c"};
        int[] rows = {0, 1, 100, 200};
        for (int r = 0; r < 4; r++) {
            for (int k = -1; k < 12; k++) {
                int due = k >= 0 && k < names[r].length() ? names[r].charAt(k) : -1;
                Check.due("letter(" + rows[r] + ", " + k + ")", hall.letter(rows[r], k), due);
            }
        }
        for (int i : new int[] {-1, 2, 99, 101, 199, 201, 300, Integer.MIN_VALUE, Integer.MAX_VALUE}) Check.due("letter(" + i + ", 0)", hall.letter(i, 0), -1);
        hall.tick(3);
        Check.due("ab", hall.value(0, 0), 7);
        Check.due("a refused plan", Check.plan(hall, "part x : int = ;"), -16);
        Check.due("its kind", hall.fault(), 1);
        Check.due("the tape is empty", hall.count(4), 0);
        Check.due("all stays: things", hall.count(0), 2);
        Check.due("all stays: nodes", hall.count(3), 11);
        Check.due("all stays: ab", hall.value(0, 0), 7);
        Check.due("all stays: its past", hall.value(0, 1), 5);
        Check.due("all stays: ticks", hall.tick(0), 3);
        Check.due("all stays: strikes", hall.count(5), 2);
        Check.due("all stays: name", hall.letter(100, 0), 'r');
        Check.due("a new plan", Check.plan(hall, "part b:long=ticks+5l then b;bell z when true;"), 1);
        Check.due("fault is over", hall.fault(), 0);
        Check.due("ticks are 0", hall.tick(0), 0);
        Check.due("nothing struck", hall.count(5), 0);
        Check.due("COUNT is 0", hall.thing(100, 6), 0);
        Check.due("b", hall.value(0, 0), 5);
        Check.due("no past", hall.value(0, 1), 0);
        Check.due("an empty plan", Check.plan(hall, ""), 0);
        Check.due("no things", hall.count(0) + hall.count(1) + hall.count(2) + hall.count(3), 0);
    }

    private static void values() {
        TurningHall hall = new TurningHall();
        Check.plan(hall, "part a : int = 100 then a + 1; part f : float = -1.5f then f * 2f; part d : double = 0.1 then -d; show t : truth = a % 2 == 0;");
        Check.due("a", hall.value(0, 0), 100);
        Check.due("f", hall.value(1, 0), Check.bits(-1.5f));
        Check.due("d", hall.value(2, 0), Check.bits(0.1));
        Check.due("t", hall.value(3, 0), 1);
        Check.due("no past yet", hall.value(0, 1), 0);
        hall.tick(1);
        Check.due("a", hall.value(0, 0), 101);
        Check.due("a 1 ago", hall.value(0, 1), 100);
        Check.due("a 2 ago", hall.value(0, 2), 0);
        Check.due("f 1 ago", hall.value(1, 1), Check.bits(-1.5f));
        Check.due("t", hall.value(3, 0), 0);
        Check.due("t 1 ago", hall.value(3, 1), 1);
        Check.due("set", hall.set(0, 7), true);
        Check.due("a is set", hall.value(0, 0), 7);
        Check.due("its past stays", hall.value(0, 1), 100);
        Check.gives(hall, "old(a)", 4, 7);
        hall.tick(40);
        Check.due("a", hall.value(0, 0), 47);
        for (int ago = 1; ago <= 31; ago++) Check.due("a " + ago + " ago", hall.value(0, ago), 47 - ago);
        Check.due("ago 32", hall.value(0, 32), 0);
        Check.due("ago -1", hall.value(0, -1), 0);
        Check.due("thing 4", hall.value(4, 0), 0);
        Check.due("thing -1", hall.value(-1, 0), 0);
        Check.due("thing 100", hall.value(100, 0), 0);
        Check.plan(hall, "part x:int=9 then x;");
        Check.due("of the new plan", hall.value(0, 0), 9);
        for (int i = 1; i < 5; i++) Check.due("not of the one before", hall.value(i, 0), 0);
        Check.due("nor can it be set", hall.set(1, 5), false);
        hall.tick(1);
        Check.due("its past", hall.value(0, 1), 9);
        for (int i = 1; i < 5; i++) Check.due("not of the one before", hall.value(i, 1), 0);
        for (int ago = 2; ago < 32; ago++) Check.due("ticks of this plan alone", hall.value(0, ago), 0);
    }

    private static void sets() {
        TurningHall hall = new TurningHall();
        Check.plan(hall, "part t:truth=false then t;part b:byte=(byte)1 then b;part s:short=(short)1 then s;part c:char=(char)1 then c;"
            + "part i:int=1 then i;part l:long=1 then l;part f:float=1 then f;part d:double=1 then d;show w:int=1;bell z when t;");
        long all = 0xfedcba9876548380L;
        long[] due = {0, (byte) all, (short) all, (char) all, (int) all, all, (int) all, all};
        for (int i = 0; i < 8; i++) {
            Check.due("set(" + i + ")", hall.set(i, all), true);
            Check.due("value(" + i + ")", hall.value(i, 0), due[i]);
        }
        Check.due("of TRUTH the lowest bit", hall.set(0, 7) && hall.value(0, 0) == 1, true);
        Check.due("CHAR has no sign", hall.set(3, -1) && hall.value(3, 0) == 65535, true);
        Check.due("a show is no part", hall.set(8, 1), false);
        Check.due("there is no 9", hall.set(9, 1), false);
        Check.due("a bell is no part", hall.set(100, 1), false);
        Check.due("there is no -1", hall.set(-1, 1), false);
        for (double x : new double[] {Double.NaN, Double.POSITIVE_INFINITY, Double.NEGATIVE_INFINITY}) {
            Check.due("DOUBLE " + x, hall.set(7, Check.bits(x)), false);
            Check.due("FLOAT " + x, hall.set(6, Check.bits((float) x)), false);
        }
        Check.due("what was stays", hall.value(7, 0), all);
        Check.due("what was stays", hall.value(6, 0), (int) all);
        double[] reals = {0.0, -0.0, Double.MIN_VALUE, -Double.MIN_VALUE, Double.MIN_NORMAL, Double.MAX_VALUE, -Double.MAX_VALUE, 1.0, Math.PI, Math.nextDown(Double.MIN_NORMAL), Math.nextDown(2.0)};
        for (double x : reals) {
            Check.due("set " + x, hall.set(7, Check.bits(x)), true);
            Check.due("value " + x, hall.value(7, 0), Check.bits(x));
        }
        float[] floats = {0f, -0f, Float.MIN_VALUE, -Float.MIN_VALUE, Float.MIN_NORMAL, Float.MAX_VALUE, -Float.MAX_VALUE, 1f, (float) Math.PI, Math.nextDown(Float.MIN_NORMAL), Math.nextDown(2f)};
        for (float x : floats) {
            Check.due("set " + x, hall.set(6, Check.bits(x) ^ 0x1234567800000000L), true);
            Check.due("value " + x, hall.value(6, 0), Check.bits(x));
        }
        java.util.Random random = new java.util.Random(5);
        Halls others = new Halls("part f:float=1 then f;part d:double=1 then d;");
        for (int k = 0; k < 100000; k++) {
            TurningHall other = others.of(4);
            long bits = random.nextLong();
            boolean finite = Double.isFinite(Double.longBitsToDouble(bits));
            Check.due("set " + bits, other.set(1, bits), finite);
            if (finite) Check.due("value " + bits, other.value(1, 0), bits);
            finite = Float.isFinite(Float.intBitsToFloat((int) bits));
            Check.due("set " + bits, other.set(0, bits), finite);
            if (finite) Check.due("value " + bits, other.value(0, 0), (int) bits);
        }
    }

    private static void steps() {
        TurningHall hall = new TurningHall();
        Check.plan(hall, "part a : double = step then a + step;");
        Check.due("a", hall.value(0, 0), Check.bits(1.0));
        Check.due("step", hall.step(Check.bits(0.25)), true);
        hall.tick(2);
        Check.due("a", hall.value(0, 0), Check.bits(1.5));
        Check.due("step NaN", hall.step(Check.bits(Double.NaN)), false);
        Check.due("step infinite", hall.step(Check.bits(Double.NEGATIVE_INFINITY)), false);
        Check.due("step -0", hall.step(Check.bits(-0.0)), true);
        Check.gives(hall, "step", 7, Check.bits(-0.0));
        Check.due("step", hall.step(Check.bits(3.5)), true);
        Check.plan(hall, "part b : double = step then b;");
        Check.due("it stays with a new plan", hall.value(0, 0), Check.bits(3.5));
    }

    public static void main(String[] args) {
        tape();
        plans();
        values();
        sets();
        steps();
        Check.close("TextsTest");
    }
}
