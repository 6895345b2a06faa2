/** Terms, parts 1 and 3, and promises 14 and 15: how formulas are worked out, what values become, jams. */
public final class WorkingTest {
    private static void is(String text, int sort, long bits) {
        Check.gives(new TurningHall(), text, sort, bits);
    }

    private static void whole(String text, long value) {
        is(text, 4, value);
    }

    private static void real(String text, double value) {
        is(text, 7, Check.bits(value));
    }

    private static void single(String text, float value) {
        is(text, 6, Check.bits(value));
    }

    private static void truth(String text, boolean value) {
        is(text, 0, value ? 1 : 0);
    }

    private static void jams(String text, int kind) {
        TurningHall hall = new TurningHall();
        Check.gives(hall, "42", 4, 42);
        Check.due("ask() of " + text, Check.ask(hall, text), 8 + kind);
        Check.due("fault() of " + text, hall.fault(), 0);
        Check.due("told() stays", hall.told(), 42);
    }

    private static void wholes() {
        whole("2147483647+1", Integer.MIN_VALUE);
        whole("-2147483647-2", 2147483647);
        whole("65536*65536+7", 7);
        whole("123456789*987654321", 123456789 * 987654321);
        whole("7/2", 3);
        whole("-7/2", -3);
        whole("-7%2", -1);
        whole("7%-2", 1);
        whole("(-2147483647-1)/-1", Integer.MIN_VALUE);
        whole("(-2147483647-1)%-1", 0);
        whole("-(-2147483647-1)", Integer.MIN_VALUE);
        is("9223372036854775807l+1", 5, Long.MIN_VALUE);
        is("9223372036854775807l*3", 5, Long.MAX_VALUE * 3);
        is("(-9223372036854775807l-1)/-1", 5, Long.MIN_VALUE);
        is("(-9223372036854775807l-1)%-1", 5, 0);
        is("-(-9223372036854775807l-1)", 5, Long.MIN_VALUE);
        is("2147483647+1l", 5, 2147483648L);
        whole("2+3*4-5%3", 12);
        whole("10-4-3", 3);
        whole("100/10/5*2", 4);
        whole("(2+3)*-(-4)", 20);
        whole("- -1", 1);
        whole("least(3,-2)", -2);
        is("most(3,5l)", 5, 5);
        whole("(int)(byte)300+(char)(-1)", 44 + 65535);
    }

    private static void reals() {
        real("0.1+0.2", 0.1 + 0.2);
        single("0.1f+0.2f", 0.1f + 0.2f);
        single("16777216f+1", 16777216f);
        real("16777216f+1.0", 16777217.0);
        single("0.1f*0.1f", 0.1f * 0.1f);
        single("1f/3", 1f / 3);
        real("1f/3.0", 1.0 / 3);
        single("9223372036854775807l+0f", 9.223372036854775807e18f);
        single("16777217+0f", 16777216f);
        real("9007199254740993l+0.0", 9007199254740992.0);
        real("5.5%2.0", 1.5);
        real("-5.5%2.0", -1.5);
        real("5.5%-2.0", 1.5);
        real("-6.0%3.0", -0.0);
        real("6.0%-3.0", 0.0);
        real("-0.0%3.0", -0.0);
        real("1p1023%3.0", Math.scalb(1.0, 1023) % 3.0);
        real("1.7p1023%1p-1074", 0.0);
        real("1.7p1023%3p-1074", (Math.scalb(1.7, 1023)) % (3 * Double.MIN_VALUE));
        real("0.3%0.1", 0.3 % 0.1);
        single("0.3f%0.1f", 0.3f % 0.1f);
        real("1.0%1p1023", 1.0);
        real("-0.0+0.0", 0.0);
        real("-0.0-0.0", -0.0);
        real("0.0*-1.0", -0.0);
        real("-0.0", -0.0);
        real("-(0.0-0.0)", -0.0);
        real("1p-1074/2.0", 0.0);
        real("-1p-1074/2.0", -0.0);
        single("-(0f)", -0f);
        real("floor(2.5)", 2);
        real("floor(-2.5)", -3);
        real("floor(-0.0)", -0.0);
        real("floor(0.5)", 0.0);
        real("floor(-0.5)", -1);
        real("ceil(-0.5)", -0.0);
        real("ceil(-0.0)", -0.0);
        real("ceil(0.0)", 0.0);
        real("ceil(2.5)", 3);
        real("ceil(-2.5)", -2);
        real("rint(0.5)", 0);
        real("rint(1.5)", 2);
        real("rint(2.5)", 2);
        real("rint(-0.5)", -0.0);
        real("rint(-1.5)", -2);
        real("rint(-0.0)", -0.0);
        real("rint(-0.3)", -0.0);
        real("rint(0.49999999999999)", 0);
        real("rint(45035996273704.5p5)", Math.rint(45035996273704.5 * 32));
        real("floor(1p1000)", Math.scalb(1.0, 1000));
        real("ceil(-1p52)", -Math.scalb(1.0, 52));
        real("abs(-0.0)", 0.0);
        real("abs(-2.5f)", 2.5);
        real("abs(-3)", 3);
        real("least(-0.0,0.0)", -0.0);
        real("least(0.0,-0.0)", -0.0);
        real("most(-0.0,0.0)", 0.0);
        real("most(0.0,-0.0)", 0.0);
        real("least(1,2.5)", 1);
        single("most(1,2.5f)", 2.5f);
        truth("-0.0==0.0", true);
        truth("-0.0<0.0", false);
        truth("16777217==16777216f", true);
        truth("16777217==16777216.0", false);
        truth("9223372036854775807l==9223372036854775807l+0.0", true);
        real("gcd(12,18)", 6);
        real("gcd(-12,18.0)", 6);
        real("gcd(0,0)", 0);
        real("gcd(-0.0,-0.0)", 0.0);
        real("gcd(0,-5)", 5);
        real("gcd(-5,0)", 5);
        real("gcd(0.75,0.5)", 0.25);
        real("gcd(0.1,0.3)", 0.3 % 0.1 == 0 ? 0.1 : Oracle.gcd(0.1, 0.3));
        real("gcd(1p1023,1p-1074)", Double.MIN_VALUE);
    }

    private static void becoming() {
        is("(byte)200", 1, -56);
        is("(byte)-129", 1, 127);
        is("(short)40000", 2, -25536);
        is("(char)-1", 3, 65535);
        is("(char)(byte)-1", 3, 65535);
        is("(short)(char)-1", 2, -1);
        is("(int)4294967301l", 4, 5);
        is("(byte)4294967551l", 1, -1);
        is("(long)-5", 5, -5);
        is("(int)2.9", 4, 2);
        is("(int)-2.9", 4, -2);
        is("(int)1p40", 4, 2147483647);
        is("(int)-1p40", 4, Integer.MIN_VALUE);
        is("(long)1p63", 5, Long.MAX_VALUE);
        is("(long)-1p70", 5, Long.MIN_VALUE);
        is("(long)1p62", 5, 1L << 62);
        is("(byte)1p40", 1, -1);
        is("(byte)-1p40", 1, 0);
        is("(short)1p40", 2, -1);
        is("(char)1p40", 3, 65535);
        is("(char)-1.5", 3, 65535);
        is("(byte)300.7", 1, 44);
        is("(byte)-300.7f", 1, -44);
        is("(float)0.1", 6, Check.bits(0.1f));
        is("(double)0.1f", 7, Check.bits((double) 0.1f));
        is("(float)16777217", 6, Check.bits(16777216f));
        is("(float)9007199791611905l", 6, Check.bits((float) 9007199791611905L));
        is("(double)9223372036854775807l", 7, Check.bits(9223372036854775807.0));
        is("(float)1p-149", 6, 1);
        is("(float)1p-150", 6, 0);
        is("(float)-1p-151", 6, Check.bits(-0f));
        is("(truth)true", 0, 1);
        is("(int)-2.5+1", 4, -1);
        is("(int)(-2.5+1)", 4, -1);
        is("-(int)2.5", 4, -2);
        is("(double)(float)(char)(byte)-1", 7, Check.bits(65535.0));
    }

    private static void jamming() {
        jams("1/0", 1);
        jams("1%0", 1);
        jams("1l/0", 1);
        jams("0l%0l", 1);
        jams("1/0.0", 2);
        jams("0.0/0.0", 2);
        jams("1%0.0", 2);
        jams("1.0/-0.0", 2);
        jams("1f%-0.0", 2);
        jams("1f/0f", 2);
        jams("1p1023+1p1023", 3);
        jams("-1p1023-1p1023", 3);
        jams("1p1023*2", 3);
        jams("1p1023/0.5", 3);
        jams("1p127f*2f", 3);
        jams("1p127f+1p127f", 3);
        jams("1p127f/0.5f", 3);
        jams("(float)1p128", 3);
        jams("(float)-1p1023", 3);
        // Rounded as if there were no end: half a step above the greatest is beyond it, less is not.
        jams("(float)(1p128-1p103)", 3);
        single("(float)(1p128-1p103-1p76)", Float.MAX_VALUE);
        real("1p1023+(1p1023-1p971)", Double.MAX_VALUE);
        real("1p1023+(1p1023-1p971)+1p969", Double.MAX_VALUE);
        jams("1p1023+(1p1023-1p971)+1p970", 3);
        jams("1p1023+(1p1023-1p970)", 3);
        // What comes first jams; what is not worked out does not.
        jams("1/0+1.0/0.0", 1);
        jams("1.0/0.0+1/0", 2);
        truth("false&&1/0==1", false);
        truth("true||1/0==1", true);
        jams("true&&1/0==1", 1);
        jams("false||1/0==1", 1);
        jams("1/0==1&&false", 1);
        whole("true?1:1/0", 1);
        whole("false?1/0:2", 2);
        jams("1/0==1?1:2", 1);
        real("true?1:2.0", 1.0);
        real("false?1.0:2", 2.0);
        single("true?16777217:2f", 16777216f);
        is("true?1:2l", 5, 1);
        whole("false?1:true?2:3", 2);
        whole("true?false?1:2:3", 2);
        truth("true||false&&false", true);
        truth("false==false&&true", true);
        truth("1<2==2<3", true);
        truth("!false&&!(1>2)", true);
        truth("true?true:false", true);
        truth("1!=1||2>=2", true);
        truth("true!=false", true);
        TurningHall hall = new TurningHall();
        Check.plan(hall, "cam c=1,-2,3.5,-0,9223372036854775807l,-0.1f;");
        double[] teeth = {1, -2, 3.5, -0.0, 9223372036854775807.0, -(double) 0.1f};
        for (int k = 0; k < 6; k++) Check.gives(hall, "c[" + k + "]", 7, Check.bits(teeth[k]));
        Check.due("index 6", Check.ask(hall, "c[6]"), 12);
        Check.due("index -1", Check.ask(hall, "c[-1]"), 12);
        Check.due("index 65535", Check.ask(hall, "c[(char)-1]"), 12);
        Check.gives(hall, "c[(byte)c[0]]", 7, Check.bits(-2.0));
    }

    /** 166 of ? within one another, 40 deep at most: all the entries that a formula can have. */
    private static String questions(int many) {
        if (many == 0) return "true";
        int third = (many - 1) / 3;
        return "(" + questions(third) + "?" + questions(third) + ":" + questions(many - 1 - 2 * third) + ")";
    }

    private static void large() {
        truth(questions(166), true);
        truth("!" + questions(166), false);
        truth("true" + "&&true".repeat(249), true);
        truth("false" + "||true".repeat(249), true);
        whole("1" + "+1".repeat(249), 250);
        // Much that waits on the stacks at once.
        whole("1+1*(int)least(1,".repeat(20) + "2" + ")".repeat(20), 2);
        whole("1+1*(".repeat(40) + "1" + ")".repeat(40), 41);
        truth("true||true&&true==(".repeat(40) + "true" + ")".repeat(40), true);
        truth("false||true&&1<2==(".repeat(40) + "true" + ")".repeat(40), true);
    }

    public static void main(String[] args) {
        wholes();
        reals();
        becoming();
        jamming();
        large();
        Check.close("WorkingTest");
    }
}
