/** Terms, parts 1 and 3, and promises 14 and 15: how formulas are worked out, what values become, jams. */
public final class WorkingTest {
    private static void jams(String text, int kind) {
        TurningHall hall = new TurningHall();
        Check.gives(hall, "42", 4, 42);
        Check.due("ask() of " + text, Check.ask(hall, text), 8 + kind);
        Check.due("fault() of " + text, hall.fault(), 0);
        Check.due("told() stays", hall.told(), 42);
    }

    private static void wholes() {
        Check.isInt("2147483647+1", Integer.MIN_VALUE);
        Check.isInt("-2147483647-2", 2147483647);
        Check.isInt("65536*65536+7", 7);
        Check.isInt("123456789*987654321", 123456789 * 987654321);
        Check.isInt("7/2", 3);
        Check.isInt("-7/2", -3);
        Check.isInt("-7%2", -1);
        Check.isInt("7%-2", 1);
        Check.isInt("(-2147483647-1)/-1", Integer.MIN_VALUE);
        Check.isInt("(-2147483647-1)%-1", 0);
        Check.isInt("-(-2147483647-1)", Integer.MIN_VALUE);
        Check.is("9223372036854775807l+1", 5, Long.MIN_VALUE);
        Check.is("9223372036854775807l*3", 5, Long.MAX_VALUE * 3);
        Check.is("(-9223372036854775807l-1)/-1", 5, Long.MIN_VALUE);
        Check.is("(-9223372036854775807l-1)%-1", 5, 0);
        Check.is("-(-9223372036854775807l-1)", 5, Long.MIN_VALUE);
        Check.is("2147483647+1l", 5, 2147483648L);
        Check.isInt("2+3*4-5%3", 12);
        Check.isInt("10-4-3", 3);
        Check.isInt("100/10/5*2", 4);
        Check.isInt("(2+3)*-(-4)", 20);
        Check.isInt("- -1", 1);
        Check.isInt("least(3,-2)", -2);
        Check.is("most(3,5l)", 5, 5);
        Check.isInt("(int)(byte)300+(char)(-1)", 44 + 65535);
    }

    private static void reals() {
        Check.isDouble("0.1+0.2", 0.1 + 0.2);
        Check.isFloat("0.1f+0.2f", 0.1f + 0.2f);
        Check.isFloat("16777216f+1", 16777216f);
        Check.isDouble("16777216f+1.0", 16777217.0);
        Check.isFloat("0.1f*0.1f", 0.1f * 0.1f);
        Check.isFloat("1f/3", 1f / 3);
        Check.isDouble("1f/3.0", 1.0 / 3);
        Check.isFloat("9223372036854775807l+0f", 9.223372036854775807e18f);
        Check.isFloat("16777217+0f", 16777216f);
        Check.isDouble("9007199254740993l+0.0", 9007199254740992.0);
        Check.isDouble("5.5%2.0", 1.5);
        Check.isDouble("-5.5%2.0", -1.5);
        Check.isDouble("5.5%-2.0", 1.5);
        Check.isDouble("-6.0%3.0", -0.0);
        Check.isDouble("6.0%-3.0", 0.0);
        Check.isDouble("-0.0%3.0", -0.0);
        Check.isDouble("1p1023%3.0", Math.scalb(1.0, 1023) % 3.0);
        Check.isDouble("1.7p1023%1p-1074", 0.0);
        Check.isDouble("1.7p1023%3p-1074", (Math.scalb(1.7, 1023)) % (3 * Double.MIN_VALUE));
        Check.isDouble("0.3%0.1", 0.3 % 0.1);
        Check.isFloat("0.3f%0.1f", 0.3f % 0.1f);
        Check.isDouble("1.0%1p1023", 1.0);
        Check.isDouble("-0.0+0.0", 0.0);
        Check.isDouble("-0.0-0.0", -0.0);
        Check.isDouble("0.0*-1.0", -0.0);
        Check.isDouble("-0.0", -0.0);
        Check.isDouble("-(0.0-0.0)", -0.0);
        Check.isDouble("1p-1074/2.0", 0.0);
        Check.isDouble("-1p-1074/2.0", -0.0);
        Check.isFloat("-(0f)", -0f);
        Check.isDouble("floor(2.5)", 2);
        Check.isDouble("floor(-2.5)", -3);
        Check.isDouble("floor(-0.0)", -0.0);
        Check.isDouble("floor(0.5)", 0.0);
        Check.isDouble("floor(-0.5)", -1);
        Check.isDouble("ceil(-0.5)", -0.0);
        Check.isDouble("ceil(-0.0)", -0.0);
        Check.isDouble("ceil(0.0)", 0.0);
        Check.isDouble("ceil(2.5)", 3);
        Check.isDouble("ceil(-2.5)", -2);
        Check.isDouble("rint(0.5)", 0);
        Check.isDouble("rint(1.5)", 2);
        Check.isDouble("rint(2.5)", 2);
        Check.isDouble("rint(-0.5)", -0.0);
        Check.isDouble("rint(-1.5)", -2);
        Check.isDouble("rint(-0.0)", -0.0);
        Check.isDouble("rint(-0.3)", -0.0);
        Check.isDouble("rint(0.49999999999999)", 0);
        Check.isDouble("rint(45035996273704.5p5)", Math.rint(45035996273704.5 * 32));
        Check.isDouble("floor(1p1000)", Math.scalb(1.0, 1000));
        Check.isDouble("ceil(-1p52)", -Math.scalb(1.0, 52));
        Check.isDouble("abs(-0.0)", 0.0);
        Check.isDouble("abs(-2.5f)", 2.5);
        Check.isDouble("abs(-3)", 3);
        Check.isDouble("least(-0.0,0.0)", -0.0);
        Check.isDouble("least(0.0,-0.0)", -0.0);
        Check.isDouble("most(-0.0,0.0)", 0.0);
        Check.isDouble("most(0.0,-0.0)", 0.0);
        Check.isDouble("least(1,2.5)", 1);
        Check.isFloat("most(1,2.5f)", 2.5f);
        Check.isTruth("-0.0==0.0", true);
        Check.isTruth("-0.0<0.0", false);
        Check.isTruth("16777217==16777216f", true);
        Check.isTruth("16777217==16777216.0", false);
        Check.isTruth("9223372036854775807l==9223372036854775807l+0.0", true);
        Check.isDouble("gcd(12,18)", 6);
        Check.isDouble("gcd(-12,18.0)", 6);
        Check.isDouble("gcd(0,0)", 0);
        Check.isDouble("gcd(-0.0,-0.0)", 0.0);
        Check.isDouble("gcd(0,-5)", 5);
        Check.isDouble("gcd(-5,0)", 5);
        Check.isDouble("gcd(0.75,0.5)", 0.25);
        Check.isDouble("gcd(0.1,0.3)", 0.3 % 0.1 == 0 ? 0.1 : Oracle.gcd(0.1, 0.3));
        Check.isDouble("gcd(1p1023,1p-1074)", Double.MIN_VALUE);
    }

    private static void becoming() {
        Check.is("(byte)200", 1, -56);
        Check.is("(byte)-129", 1, 127);
        Check.is("(short)40000", 2, -25536);
        Check.is("(char)-1", 3, 65535);
        Check.is("(char)(byte)-1", 3, 65535);
        Check.is("(short)(char)-1", 2, -1);
        Check.is("(int)4294967301l", 4, 5);
        Check.is("(byte)4294967551l", 1, -1);
        Check.is("(long)-5", 5, -5);
        Check.is("(int)2.9", 4, 2);
        Check.is("(int)-2.9", 4, -2);
        Check.is("(int)1p40", 4, 2147483647);
        Check.is("(int)-1p40", 4, Integer.MIN_VALUE);
        Check.is("(long)1p63", 5, Long.MAX_VALUE);
        Check.is("(long)-1p70", 5, Long.MIN_VALUE);
        Check.is("(long)1p62", 5, 1L << 62);
        Check.is("(byte)1p40", 1, -1);
        Check.is("(byte)-1p40", 1, 0);
        Check.is("(short)1p40", 2, -1);
        Check.is("(char)1p40", 3, 65535);
        Check.is("(char)-1.5", 3, 65535);
        Check.is("(byte)300.7", 1, 44);
        Check.is("(byte)-300.7f", 1, -44);
        Check.is("(float)0.1", 6, Check.bits(0.1f));
        Check.is("(double)0.1f", 7, Check.bits((double) 0.1f));
        Check.is("(float)16777217", 6, Check.bits(16777216f));
        Check.is("(float)9007199791611905l", 6, Check.bits((float) 9007199791611905L));
        Check.is("(double)9223372036854775807l", 7, Check.bits(9223372036854775807.0));
        Check.is("(float)1p-149", 6, 1);
        Check.is("(float)1p-150", 6, 0);
        Check.is("(float)-1p-151", 6, Check.bits(-0f));
        Check.is("(truth)true", 0, 1);
        Check.is("(int)-2.5+1", 4, -1);
        Check.is("(int)(-2.5+1)", 4, -1);
        Check.is("-(int)2.5", 4, -2);
        Check.is("(double)(float)(char)(byte)-1", 7, Check.bits(65535.0));
    }

    private static void jamming() {
        jams("1/0", 1);
        jams("1%0", 1);
        jams("1l/0", 1);
        jams("0l%0l", 1);
        jams("1/0.0", 2);
        jams("0.0/0.0", 2);
        jams("1%0.0", 2);
        jams("1.0/-0.0", 2);
        jams("1f%-0.0", 2);
        jams("1f/0f", 2);
        jams("1p1023+1p1023", 3);
        jams("-1p1023-1p1023", 3);
        jams("1p1023*2", 3);
        jams("1p1023/0.5", 3);
        jams("1p127f*2f", 3);
        jams("1p127f+1p127f", 3);
        jams("1p127f/0.5f", 3);
        jams("(float)1p128", 3);
        jams("(float)-1p1023", 3);
        // Rounded as if there were no end: half a step above the greatest is beyond it, less is not.
        jams("(float)(1p128-1p103)", 3);
        Check.isFloat("(float)(1p128-1p103-1p76)", Float.MAX_VALUE);
        Check.isDouble("1p1023+(1p1023-1p971)", Double.MAX_VALUE);
        Check.isDouble("1p1023+(1p1023-1p971)+1p969", Double.MAX_VALUE);
        jams("1p1023+(1p1023-1p971)+1p970", 3);
        jams("1p1023+(1p1023-1p970)", 3);
        // What comes first jams; what is not worked out does not.
        jams("1/0+1.0/0.0", 1);
        jams("1.0/0.0+1/0", 2);
        Check.isTruth("false&&1/0==1", false);
        Check.isTruth("true||1/0==1", true);
        jams("true&&1/0==1", 1);
        jams("false||1/0==1", 1);
        jams("1/0==1&&false", 1);
        Check.isInt("true?1:1/0", 1);
        Check.isInt("false?1/0:2", 2);
        jams("1/0==1?1:2", 1);
        Check.isDouble("true?1:2.0", 1.0);
        Check.isDouble("false?1.0:2", 2.0);
        Check.isFloat("true?16777217:2f", 16777216f);
        Check.is("true?1:2l", 5, 1);
        Check.isInt("false?1:true?2:3", 2);
        Check.isInt("true?false?1:2:3", 2);
        Check.isTruth("true||false&&false", true);
        Check.isTruth("false==false&&true", true);
        Check.isTruth("1<2==2<3", true);
        Check.isTruth("!false&&!(1>2)", true);
        Check.isTruth("true?true:false", true);
        Check.isTruth("1!=1||2>=2", true);
        Check.isTruth("true!=false", true);
        TurningHall hall = new TurningHall();
        Check.plan(hall, "cam c=1,-2,3.5,-0,9223372036854775807l,-0.1f;");
        double[] teeth = {1, -2, 3.5, -0.0, 9223372036854775807.0, -(double) 0.1f};
        for (int k = 0; k < 6; k++) Check.gives(hall, "c[" + k + "]", 7, Check.bits(teeth[k]));
        Check.due("index 6", Check.ask(hall, "c[6]"), 12);
        Check.due("index -1", Check.ask(hall, "c[-1]"), 12);
        Check.due("index 65535", Check.ask(hall, "c[(char)-1]"), 12);
        Check.gives(hall, "c[(byte)c[0]]", 7, Check.bits(-2.0));
    }

    /** 166 of ? within one another, 40 deep at most: all the entries that a formula can have. */
    private static String questions(int many) {
        if (many == 0) return "true";
        int third = (many - 1) / 3;
        return "(" + questions(third) + "?" + questions(third) + ":" + questions(many - 1 - 2 * third) + ")";
    }

    private static void large() {
        Check.isTruth(questions(166), true);
        Check.isTruth("!" + questions(166), false);
        Check.isTruth("true" + "&&true".repeat(249), true);
        Check.isTruth("false" + "||true".repeat(249), true);
        Check.isInt("1" + "+1".repeat(249), 250);
        // Much that waits on the stacks at once.
        Check.isInt("1+1*(int)least(1,".repeat(20) + "2" + ")".repeat(20), 2);
        Check.isInt("1+1*(".repeat(40) + "1" + ")".repeat(40), 41);
        Check.isTruth("true||true&&true==(".repeat(40) + "true" + ")".repeat(40), true);
        Check.isTruth("false||true&&1<2==(".repeat(40) + "true" + ")".repeat(40), true);
    }

    public static void main(String[] args) {
        wholes();
        reals();
        becoming();
        jamming();
        large();
        Check.close("WorkingTest");
    }
}
