/** Each sentence of "Terms", part 1 (NUMBERS), at its bounds. */
public final class EdgesOfNumbersTest {
    private static final String ALL = "part t:truth=true then t;part b:byte=(byte)1 then b;part s:short=(short)1 then s;part c:char=(char)1 then c;"
        + "part i:int=1 then i;part l:long=1 then l;part f:float=1 then f;part d:double=1 then d;";

    private static void wholeSorts() {
        Check.sentence("SORTS: 0 TRUTH; wholes: 1 BYTE (8 bits), 2 SHORT (16), 3 CHAR (16, without a sign), 4 INT (32), 5 LONG (64), with sign but for CHAR;");
        TurningHall hall = Check.hall(ALL);
        for (int i = 0; i < 8; i++) Check.due("the sort of thing " + i, hall.thing(i, 0), i);
        long[][] ends = {{0, 1}, {-128, 127}, {-32768, 32767}, {0, 65535}, {Integer.MIN_VALUE, Integer.MAX_VALUE}, {Long.MIN_VALUE, Long.MAX_VALUE}};
        for (int i = 0; i < 6; i++) {
            for (int k = 0; k < 2; k++) {
                Check.due("set(" + i + ", an end)", hall.set(i, ends[i][k]), true);
                Check.due("value(" + i + ", 0) at an end", hall.value(i, 0), ends[i][k]);
            }
            hall.set(i, ends[i][1] + 1);
            Check.due("1 beyond the end it comes round", hall.value(i, 0), ends[i][0]);
            hall.set(i, ends[i][0] - 1);
            Check.due("1 ahead of the beginning, too", hall.value(i, 0), ends[i][1]);
        }
        Check.is("(byte)127", 1, 127);
        Check.is("(byte)128", 1, -128);
        Check.is("(byte)-129", 1, 127);
        Check.is("(short)32767", 2, 32767);
        Check.is("(short)32768", 2, -32768);
        Check.is("(short)-32769", 2, 32767);
        Check.is("(char)65535", 3, 65535);
        Check.is("(char)65536", 3, 0);
        Check.is("(char)-1", 3, 65535);
        Check.is("(int)2147483648l", 4, Integer.MIN_VALUE);
        Check.is("(int)-2147483649l", 4, 2147483647);
    }

    private static void realSorts() {
        Check.sentence("reals: 6 FLOAT (32), 7 DOUBLE (64), IEEE 754, to the nearest, of two the even one;");
        Check.isDouble("1.0+1p-53", 1.0);
        Check.isDouble("1.0+(1p-53+1p-105)", 1.0 + Math.ulp(1.0));
        Check.isDouble("1.0+1p-52+1p-53", 1.0 + 2 * Math.ulp(1.0));
        Check.isDouble("1.0-1p-54", 1.0);
        Check.isDouble("1.0-3p-54", Math.nextDown(Math.nextDown(1.0)));
        Check.isDouble("9007199254740993l+0.0", 9007199254740992.0);
        Check.isDouble("9007199254740995l+0.0", 9007199254740996.0);
        Check.isFloat("1f+1p-24f", 1f);
        Check.isFloat("1f+(1p-24f+1p-47f)", 1f + Math.ulp(1f));
        Check.isFloat("1f+1p-23f+1p-24f", 1f + 2 * Math.ulp(1f));
        Check.isFloat("16777217+0f", 16777216f);
        Check.isFloat("16777219+0f", 16777220f);
        // The least ones, and half of them.
        Check.is("1p-1074", 7, 1);
        Check.is("1p-1074/2.0", 7, 0);
        Check.is("3p-1074/2.0", 7, 2);
        Check.is("5p-1074/2.0", 7, 2);
        Check.is("3p-1074*0.5", 7, 2);
        Check.is("1p-149f", 6, 1);
        Check.is("1p-149f/2f", 6, 0);
        Check.is("3p-149f/2f", 6, 2);
        Check.is("5p-149f*0.5f", 6, 2);
        // Where the small ones end.
        Check.isDouble("1p-1022-1p-1074", Math.nextDown(Double.MIN_NORMAL));
        Check.isFloat("1p-126f-1p-149f", Math.nextDown(Float.MIN_NORMAL));
    }

    private static void finite() {
        Check.sentence("all reals that are held are finite (-0 is one).");
        TurningHall hall = Check.hall(ALL + "cam m=-0,-0.0,-0f,-0l,- 0p1;");
        long minus = Check.bits(-0.0);
        Check.due("set -0", hall.set(7, minus), true);
        Check.due("-0 is held", hall.value(7, 0), minus);
        Check.due("set -0 of FLOAT", hall.set(6, Check.bits(-0f)), true);
        Check.due("-0 is held", hall.value(6, 0), Check.bits(-0f));
        Check.gives(hall, "d", 7, minus);
        Check.gives(hall, "f", 6, Check.bits(-0f));
        Check.due("step -0", hall.step(minus), true);
        Check.gives(hall, "step", 7, minus);
        for (int k = 0; k < 5; k++) Check.gives(hall, "m[" + k + "]", 7, minus);
        Check.gives(hall, "-0.0", 7, minus);
        hall.tick(1);
        Check.due("-0 is past", hall.value(7, 1), minus);
        // The greatest are held, what is one step beyond is not.
        for (long sign : new long[] {0, Long.MIN_VALUE}) {
            Check.due("the greatest DOUBLE", hall.set(7, sign | 0x7fefffffffffffffL), true);
            Check.due("value", hall.value(7, 0), sign | 0x7fefffffffffffffL);
            Check.due("the step beyond", hall.set(7, sign | 0x7ff0000000000000L), false);
            Check.due("no number", hall.set(7, sign | 0x7ff0000000000001L), false);
            Check.due("step of the greatest", hall.step(sign | 0x7fefffffffffffffL), true);
            Check.due("step beyond", hall.step(sign | 0x7ff0000000000000L), false);
            Check.due("the greatest FLOAT", hall.set(6, sign >>> 32 | 0x7f7fffffL), true);
            Check.due("value", hall.value(6, 0), (int) (sign >>> 32 | 0x7f7fffffL));
            Check.due("the step beyond", hall.set(6, sign >>> 32 | 0x7f800000L), false);
            Check.due("no number", hall.set(6, sign >>> 32 | 0x7fc00000L), false);
        }
    }

    private static void bits() {
        Check.sentence("BITS of a value, a long: TRUTH 0, 1; a whole itself; a FLOAT its 32 bits as an int; a DOUBLE its 64.");
        Check.is("false", 0, 0);
        Check.is("true", 0, 1);
        Check.is("-1", 4, -1);
        Check.is("-9223372036854775807l-1", 5, Long.MIN_VALUE);
        Check.is("(char)-1", 3, 0xffff);
        Check.is("1f", 6, 0x3f800000);
        Check.is("-1f", 6, 0xffffffffbf800000L);
        Check.is("-0f", 6, 0xffffffff80000000L);
        Check.is("-(1p127f*(2f-1p-23f))", 6, 0xffffffffff7fffffL);
        Check.is("-1p-149f", 6, 0xffffffff80000001L);
        Check.is("1p-126f", 6, 0x00800000);
        Check.is("1.0", 7, 0x3ff0000000000000L);
        Check.is("-1.0", 7, 0xbff0000000000000L);
        Check.is("-0.0", 7, Long.MIN_VALUE);
        Check.is("1p-1022", 7, 0x0010000000000000L);
        Check.is("-1p-1074", 7, 0x8000000000000001L);
        Check.is("1p1023*(2.0-1p-52)", 7, 0x7fefffffffffffffL);
        // A part has them, too, now and by what is past.
        TurningHall hall = Check.hall("part f:float=-1f then f;part d:double=-1f then d;part t:truth=true then t;part b:byte=(byte)-1 then b;");
        hall.tick(1);
        for (int ago = 0; ago < 2; ago++) {
            Check.due("of FLOAT", hall.value(0, ago), 0xffffffffbf800000L);
            Check.due("of DOUBLE", hall.value(1, ago), 0xbff0000000000000L);
            Check.due("of TRUTH", hall.value(2, ago), 1);
            Check.due("of BYTE", hall.value(3, ago), -1);
        }
    }

    private static void wrapping() {
        Check.sentence("+ - * of INTs, of LONGs wrap;");
        Check.isInt("2147483647+1", Integer.MIN_VALUE);
        Check.isInt("-2147483647-1", Integer.MIN_VALUE);
        Check.isInt("-2147483647-2", 2147483647);
        Check.isInt("-2147483647+-2", 2147483647);
        Check.isInt("65536*32768", Integer.MIN_VALUE);
        Check.isInt("65536*65536", 0);
        Check.isInt("2147483647*2147483647", 1);
        Check.isInt("(-2147483647-1)*-1", Integer.MIN_VALUE);
        Check.isInt("(byte)127+(byte)1", 128);
        Check.isInt("(char)-1*(char)-1", -131071);
        Check.isLong("9223372036854775807l+1", Long.MIN_VALUE);
        Check.isLong("-9223372036854775807l-2", Long.MAX_VALUE);
        Check.isLong("4294967296l*2147483648l", Long.MIN_VALUE);
        Check.isLong("4294967296l*4294967296l", 0);
        Check.isLong("9223372036854775807l*9223372036854775807l", 1);
        Check.isLong("2147483647l+1", 2147483648L);
        TurningHall hall = Check.hall("part i:int=2147483647 then i+1;part l:long=-9223372036854775807l then l-2;");
        hall.tick(1);
        Check.due("a part wraps", hall.value(0, 0), Integer.MIN_VALUE);
        Check.due("a LONG wraps", hall.value(1, 0), Long.MAX_VALUE);
    }

    private static void dividing() {
        Check.sentence("/ is towards 0 (the least by -1 is the least),");
        Check.isInt("7/2", 3);
        Check.isInt("-7/2", -3);
        Check.isInt("7/-2", -3);
        Check.isInt("-7/-2", 3);
        Check.isInt("1/2147483647", 0);
        Check.isInt("-1/2", 0);
        Check.isInt("(-2147483647-1)/-1", Integer.MIN_VALUE);
        Check.isInt("(-2147483647-1)/1", Integer.MIN_VALUE);
        Check.isInt("-2147483647/-1", 2147483647);
        Check.isLong("(-9223372036854775807l-1)/-1", Long.MIN_VALUE);
        Check.isLong("(-9223372036854775807l-1)/-1l", Long.MIN_VALUE);
        Check.isLong("-9223372036854775807l/-1", Long.MAX_VALUE);
        Check.isLong("-9223372036854775807l/2", -4611686018427387903L);
        Check.isLong("(-2147483647-1)/-1l", 2147483648L);
    }

    private static void remaindersOfWholes() {
        Check.sentence("x % y is x less y times that.");
        Check.isInt("7%2", 1);
        Check.isInt("-7%2", -1);
        Check.isInt("7%-2", 1);
        Check.isInt("-7%-2", -1);
        Check.isInt("6%3", 0);
        Check.isInt("-6%3", 0);
        Check.isInt("(-2147483647-1)%-1", 0);
        Check.isInt("(-2147483647-1)%2147483647", -1);
        Check.isInt("2147483647%(-2147483647-1)", 2147483647);
        Check.isLong("(-9223372036854775807l-1)%-1", 0);
        Check.isLong("(-9223372036854775807l-1)%9223372036854775807l", -1);
        Check.isLong("-7l%4", -3);
    }

    private static void roundedOnce() {
        Check.sentence("+ - * / of reals are rounded once.");
        Check.isDouble("0.1+0.2", 0.1 + 0.2);
        Check.isDouble("0.3-0.1", 0.3 - 0.1);
        Check.isDouble("0.1*3", 0.1 * 3);
        Check.isDouble("1.0/3", 1.0 / 3);
        Check.isFloat("0.1f+0.2f", 0.1f + 0.2f);
        Check.isFloat("0.3f-0.1f", 0.3f - 0.1f);
        Check.isFloat("0.1f*0.1f", 0.1f * 0.1f);
        Check.isFloat("1f/3", 1f / 3);
        Check.isFloat("16777216f+1", 16777216f);
        Check.isFloat("16777216f+1+1", 16777216f);
        Check.isDouble("16777216f+1.0", 16777217.0);
        Check.isFloat("(1f/3)*3f", 1f / 3 * 3f);
        Check.isDouble("1p53+1.0-1p53", 0.0);
        Check.isDouble("1p1023*0.5*2.0", Math.scalb(1.0, 1023));
        Check.isDouble("-0.0+0.0", 0.0);
        Check.isDouble("-0.0-0.0", -0.0);
        Check.isDouble("1.5-1.5", 0.0);
        Check.isDouble("-0.0*1.0", -0.0);
        Check.isDouble("0.0/-1.0", -0.0);
    }

    private static void remaindersOfReals() {
        Check.sentence("x % y of reals: x less y times the whole part (towards 0) of the exact quotient: exact, with x's sign (a 0, too).");
        Check.isDouble("5.5%2.0", 1.5);
        Check.isDouble("-5.5%2.0", -1.5);
        Check.isDouble("5.5%-2.0", 1.5);
        Check.isDouble("-5.5%-2.0", -1.5);
        Check.isDouble("6.0%3.0", 0.0);
        Check.isDouble("-6.0%3.0", -0.0);
        Check.isDouble("6.0%-3.0", 0.0);
        Check.isDouble("0.0%3.0", 0.0);
        Check.isDouble("-0.0%3.0", -0.0);
        Check.isDouble("-0.0%-3.0", -0.0);
        Check.isDouble("3.0%3.0", 0.0);
        Check.isDouble("-3.0%3.0", -0.0);
        Check.isDouble("1p-1074%1p-1074", 0.0);
        Check.isDouble("-1p1023%-1p1023", -0.0);
        Check.isDouble("2.0%3.0", 2.0);
        Check.isDouble("-2.0%3.0", -2.0);
        // The quotient rounded would be 10 here, the exact one is below it.
        Check.isDouble("1.0%0.1", 1.0 % 0.1);
        Check.isDouble("1.0%0.1>0.09?1.0:0.0", 1.0);
        Check.isDouble("1p1023%3.0", 2.0);
        Check.isDouble("1p1022%3.0", 1.0);
        Check.isDouble("-1p1023%3.0", -2.0);
        Check.isDouble("1p1023%3p-1074", Math.scalb(1.0, 1023) % (3 * Double.MIN_VALUE));
        Check.isDouble("1p1023%1p-1074", 0.0);
        Check.isDouble("3p-1074%2p-1074", Double.MIN_VALUE);
        Check.isDouble("1p-1074%1p1023", Double.MIN_VALUE);
        Check.isDouble("1p53%3.0", 2.0);
        Check.isFloat("-3f%3f", -0f);
        Check.isFloat("5.5f%2", 1.5f);
        Check.isFloat("-6f%3", -0f);
        Check.isFloat("1f%0.1f", 1f % 0.1f);
        Check.isFloat("1p127f%3", 2f);
        Check.isFloat("1p127f%3p-149f", Math.scalb(1f, 127) % (3 * Float.MIN_VALUE));
    }

    private static void lowestBits() {
        Check.sentence("A value BECOMES of another sort: a whole of a smaller one its lowest bits (of CHAR without a sign);");
        Check.is("(byte)255", 1, -1);
        Check.is("(byte)256", 1, 0);
        Check.is("(byte)-256", 1, 0);
        Check.is("(byte)(short)-129", 1, 127);
        Check.is("(byte)(char)65408", 1, -128);
        Check.is("(byte)9223372036854775807l", 1, -1);
        Check.is("(short)65535", 2, -1);
        Check.is("(short)65536", 2, 0);
        Check.is("(short)(char)-1", 2, -1);
        Check.is("(short)(-9223372036854775807l-1)", 2, 0);
        Check.is("(char)65537", 3, 1);
        Check.is("(char)(byte)-1", 3, 65535);
        Check.is("(char)(short)-32768", 3, 32768);
        Check.is("(char)9223372036854775807l", 3, 65535);
        Check.is("(int)4294967295l", 4, -1);
        Check.is("(int)4294967296l", 4, 0);
        Check.is("(int)(-9223372036854775807l-1)", 4, 0);
        // A larger one has it as it is.
        Check.is("(long)(byte)-1", 5, -1);
        Check.is("(int)(char)-1", 4, 65535);
        Check.is("(short)(byte)-128", 2, -128);
    }

    private static void nearest() {
        Check.sentence("a whole a real, a DOUBLE a FLOAT: the nearest;");
        Check.isDouble("(double)9007199254740992l", 9007199254740992.0);
        Check.isDouble("(double)9007199254740993l", 9007199254740992.0);
        Check.isDouble("(double)9007199254740995l", 9007199254740996.0);
        Check.isDouble("(double)9223372036854775807l", 9223372036854775808.0);
        Check.isDouble("(double)-2147483647", -2147483647.0);
        Check.isDouble("(double)(char)-1", 65535.0);
        Check.isFloat("(float)16777217", 16777216f);
        Check.isFloat("(float)16777219", 16777220f);
        Check.isFloat("(float)2147483647", 2147483648f);
        Check.isFloat("(float)9223372036854775807l", 9223372036854775808f);
        // By a DOUBLE between, this one would come to a tie and be rounded down: it is rounded once.
        Check.isFloat("(float)9007199791611905l", 9007200328482816f);
        Check.isFloat("(float)0.1", 0.1f);
        Check.isFloat("(float)(1.0+1p-24)", 1f);
        Check.isFloat("(float)(1.0+1p-24+1p-52)", 1f + Math.ulp(1f));
        Check.isFloat("(float)(1.0+3p-24)", 1f + 2 * Math.ulp(1f));
        Check.is("(float)1p-149", 6, 1);
        Check.is("(float)1p-150", 6, 0);
        Check.is("(float)1.5p-150", 6, 1);
        Check.is("(float)-1p-150", 6, Check.bits(-0f));
        Check.is("(float)-1p-1074", 6, Check.bits(-0f));
        Check.isFloat("(float)-0.0", -0f);
        Check.isDouble("(double)0.1f", (double) 0.1f);
        Check.isDouble("(double)-0f", -0.0);
    }

    private static void towardsZero() {
        Check.sentence("a real INT or LONG: its part towards 0, beyond the ends the end;");
        Check.is("(int)2.9", 4, 2);
        Check.is("(int)-2.9", 4, -2);
        Check.is("(int)-0.9", 4, 0);
        Check.is("(int)-0.0", 4, 0);
        Check.is("(int)2147483646.9", 4, 2147483646);
        Check.is("(int)2147483647.9", 4, 2147483647);
        Check.is("(int)2147483648.0", 4, 2147483647);
        Check.is("(int)1p1023", 4, 2147483647);
        Check.is("(int)-2147483648.9", 4, Integer.MIN_VALUE);
        Check.is("(int)-2147483649.0", 4, Integer.MIN_VALUE);
        Check.is("(int)-1p1023", 4, Integer.MIN_VALUE);
        Check.is("(int)1p31f", 4, 2147483647);
        Check.is("(int)-1p127f", 4, Integer.MIN_VALUE);
        Check.is("(long)2147483648.5", 5, 2147483648L);
        Check.is("(long)(1p63-1024.0)", 5, 9223372036854774784L);
        Check.is("(long)1p63", 5, Long.MAX_VALUE);
        Check.is("(long)1p1023", 5, Long.MAX_VALUE);
        Check.is("(long)-1p63", 5, Long.MIN_VALUE);
        Check.is("(long)-1p64", 5, Long.MIN_VALUE);
        Check.is("(long)1p63f", 5, Long.MAX_VALUE);
        Check.is("(long)-1p127f", 5, Long.MIN_VALUE);
        Check.is("(long)-0.9", 5, 0);
        Check.is("(long)1p-1074", 5, 0);
    }

    private static void asAnInt() {
        Check.sentence("a real BYTE, SHORT, CHAR: it as an INT, then that's lowest bits.");
        Check.is("(byte)127.9", 1, 127);
        Check.is("(byte)128.0", 1, -128);
        Check.is("(byte)-128.9", 1, -128);
        Check.is("(byte)-129.0", 1, 127);
        Check.is("(byte)4294967296.0", 1, -1);
        Check.is("(byte)1p1023", 1, -1);
        Check.is("(byte)-1p1023", 1, 0);
        Check.is("(byte)300.7f", 1, 44);
        Check.is("(short)32767.9", 2, 32767);
        Check.is("(short)32768.0", 2, -32768);
        Check.is("(short)1p40", 2, -1);
        Check.is("(short)-1p40", 2, 0);
        Check.is("(short)-1p127f", 2, 0);
        Check.is("(char)65535.9", 3, 65535);
        Check.is("(char)65536.0", 3, 0);
        Check.is("(char)-0.9", 3, 0);
        Check.is("(char)-1.0", 3, 65535);
        Check.is("(char)1p31", 3, 65535);
        Check.is("(char)-1p31", 3, 0);
        Check.is("(char)1p127f", 3, 65535);
    }

    private static void jamsOfWholes() {
        Check.sentence("JAMS, which end a formula without a value: 1 / or % of wholes by 0.");
        String[] texts = {"1/0", "1%0", "0/0", "0%0", "1l/0", "1%0l", "1l/0l", "(byte)1/(byte)0", "(char)1%(char)0", "(-2147483647-1)/0", "1/(1-1)"};
        for (String text : texts) Check.jams(text, 1);
        Check.jams("1/0+2", 1);
        Check.jams("2+1%0", 1);
        Check.jams("1/0*(1.0/0.0)", 1);
        Check.jams("(float)1p200+1/0", 3);
        Check.isInt("0/1", 0);
        Check.isInt("0%-1", 0);
        TurningHall hall = new TurningHall();
        Check.gives(hall, "7", 4, 7);
        Check.due("a jam", Check.ask(hall, "7+1/0"), 9);
        Check.due("is no value", hall.told(), 7);
    }

    private static void jamsOfReals() {
        Check.sentence("2 / or % of reals by 0 (-0 too).");
        String[] texts = {"1/0.0", "1%0.0", "0.0/0.0", "0.0%0.0", "1.0/-0.0", "1.0%-0.0", "1f/0", "1f%0", "1f/0f", "1f%-0f", "1/-0f", "9223372036854775807l/0f",
            "1p1023/0.0", "-0.0/-0.0", "1.0/(1p-1074/2.0)"};
        for (String text : texts) Check.jams(text, 2);
        Check.isDouble("0.0/1.0", 0.0);
        Check.isDouble("0.0%1p-1074", 0.0);
        Check.isDouble("1p-1074/1p-1074", 1.0);
    }

    private static void jamsBeyond() {
        Check.sentence("3 a real of + - * /, or a FLOAT that a DOUBLE becomes, that is beyond the greatest finite one (rounded as if there were no end).");
        String greatest = "(1p1023+(1p1023-1p970-1p970))";
        Check.isDouble(greatest, Double.MAX_VALUE);
        Check.isDouble(greatest + "+1p969", Double.MAX_VALUE);
        Check.isDouble(greatest + "+(1p970-1p917)", Double.MAX_VALUE);
        Check.jams(greatest + "+1p970", 3);
        Check.isDouble("-" + greatest + "-1p969", -Double.MAX_VALUE);
        Check.jams("-" + greatest + "-1p970", 3);
        Check.jams(greatest + "+" + greatest, 3);
        Check.jams(greatest + "*2", 3);
        Check.jams(greatest + "*-2.0", 3);
        Check.isDouble(greatest + "*1.0", Double.MAX_VALUE);
        Check.jams(greatest + "*(1.0+1p-52)", 3);
        Check.jams(greatest + "/0.5", 3);
        Check.jams("1.0/1p-1074", 3);
        Check.jams("-1.0/1p-1074", 3);
        Check.isDouble("1.0/1p-1023", Math.scalb(1.0, 1023));
        Check.jams("1.0/1p-1024", 3);
        String large = "(1p127f+(1p127f-1p104f))";
        Check.isFloat(large, Float.MAX_VALUE);
        Check.isFloat(large + "+1p102f", Float.MAX_VALUE);
        Check.jams(large + "+1p103f", 3);
        Check.jams("-" + large + "-1p103f", 3);
        Check.jams(large + "*2", 3);
        Check.jams(large + "/0.5f", 3);
        Check.jams("1f/1p-149f", 3);
        Check.jams("9223372036854775807l*1p100f", 3);
        // One of the two a DOUBLE: then there is much room.
        Check.isDouble(large + "*2.0", 2.0 * Float.MAX_VALUE);
        Check.isFloat("(float)" + large, Float.MAX_VALUE);
        Check.isFloat("(float)(1p128-1p104)", Float.MAX_VALUE);
        Check.isFloat("(float)(1p128-1p103-1p75)", Float.MAX_VALUE);
        Check.jams("(float)(1p128-1p103)", 3);
        Check.isFloat("(float)-(1p128-1p103-1p75)", -Float.MAX_VALUE);
        Check.jams("(float)-(1p128-1p103)", 3);
        Check.jams("(float)1p1023", 3);
        // What is too small is 0 (or -0), no jam.
        Check.isDouble("1p-1074*1p-1074", 0.0);
        Check.isDouble("-1p-1074*1p-1074", -0.0);
        Check.isFloat("(float)1p-1074", 0f);
    }

    private static void jamsOfIndexes() {
        Check.sentence("4 an index that a cam has not.");
        TurningHall hall = Check.hall("cam one=7;cam all=0,1,2,3,4,5,6,7,8,9,10,11,12,13,14,15,16,17,18,19,20,21,22,23;cam next=99;");
        Check.gives(hall, "one[0]", 7, Check.bits(7.0));
        Check.gives(hall, "all[0]", 7, 0);
        Check.gives(hall, "all[23]", 7, Check.bits(23.0));
        String[] jams = {"one[1]", "one[-1]", "all[24]", "all[-1]", "next[1]", "all[2147483647]", "all[-2147483647-1]", "all[(char)-1]", "all[(byte)-128]", "all[(short)256]"};
        for (String text : jams) Check.due("ask() of " + text, Check.ask(hall, text), 12);
        Check.gives(hall, "all[(short)23]", 7, Check.bits(23.0));
    }

    public static void run() {
        wholeSorts();
        realSorts();
        finite();
        bits();
        wrapping();
        dividing();
        remaindersOfWholes();
        roundedOnce();
        remaindersOfReals();
        lowestBits();
        nearest();
        towardsZero();
        asAnInt();
        jamsOfWholes();
        jamsOfReals();
        jamsBeyond();
        jamsOfIndexes();
    }

    public static void main(String[] args) {
        run();
        Check.close("EdgesOfNumbersTest");
    }
}
