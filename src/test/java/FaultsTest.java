/** Terms, part 2, and promises 4, 5, 14: the four kinds of FAULTS and their places. */
public final class FaultsTest {
    private static String times(String text, int many) {
        return text.repeat(many);
    }

    private static void readingPlans() {
        String[] texts = {"^x", "^1", "^;", "^then", "part^", "part ^1 : int = 1 then 1;", "part ^int : int = 1 then 1;", "part a ^= 1;",
            "part a : ^b = 1 then 1;", "part a : int ^then", "part a : int = ^then 1;", "part a : int = 1 ^;", "part a : int = 1 then ^;",
            "part a : int = 1 then 1^", "part a : int = 1 then 1 ^then", "show a : int = 1 ^then 1;", "show a : int = 1 ^: 2;",
            "show a : int = 1^", "show a : int = 1;^)", "cam ^= 1;", "cam c ^: 1;", "cam c = ^;", "cam c = - ^- 1;", "cam c = 1 ^+ 1;",
            "cam c = 1, ^;", "cam c = 1 ^2;", "cam c = ^true;", "cam c = ^(1);", "bell b ^= true;", "bell b when ^;", "bell b when true^",
            "bell b when true ^, true;", "show a : int = 1 ^, 2;", "show a : int = 1 ^];", "show a : int = 1 ^= 2;", "show a : int = ^== 2;",
            "show a : int = 1; ^show1", "part a : int = 1 then 1; ^a : int = 1 then 1;", "  \t\n ^\r part", "show a : int = 1 ^& 1;",
            "show a : int = 1 ^| 1;", "show a : int = 1 && ^& 1;", "show a : int = 1 ^. 1;", "show a : int = ^.5;", "show a : int = 1 ^# ;",
            "bell ^bell b when true;", "bell ^part a : int = 1 then 1;", "cam ^cam c = 1;", "cam ^show a : int = 1;", "part ^part a : int = 1 then 1;",
            "show ^bell b when true;", "^Part a : int = 1 then 1;", "show a : ^Int = 1;", "show a : int ^== 1;", "part a : int = 1 then 1 ^part b"};
        for (String text : texts) Check.refusedAt(text, 1);
        // The 11th byte of letters and digits, where a NAME could stand and where none could.
        Check.refusedAt("show abcdefghij^k : int = 1;", 1);
        Check.refusedAt("show a : int = 1 abcdefghij^klmn", 1);
        Check.refusedAt("abcdefghij^k", 1);
        Check.refusedAt("part a : int = 1 thenthenth^en 1;", 1);
        Check.refusedAt("cam a123456789^0 = 1;", 1);
        Check.accepted("show abcdefghij : int = 1;", 1);
        Check.accepted("show aAzZ0189ZZ : int = 1;show Z:int=1;show A:int=1;show z:int=1;show a:int=Z+A+z;", 5);
        for (char c : "@[`{/:^_$'\"\\~\u0080\u00e9\u00ff\u0000\r\u000b".toCharArray()) Check.refused("show a" + c + " : int = 1;", 1, c == ':' ? 8 : 6);
        Check.accepted("part Part : int = 1 then Part; show thenn : int = Part;", 2);
        Check.accepted(" part\ta:int=1\nthen 1;show b:int=1;", 2);
    }

    private static void readingFormulas() {
        String[] texts = {"^", "  ^", "1 ^1", "1 ^;", "1 +^", "1 + ^)", "(1^", "(1 ^;", "^)", "(^)", "1 + ^* 2", "1 ^! 2", "true ^! ", "- ^", "!^", "true ?^",
            "true ? 1^", "true ? 1 ^)", "true ? 1 :^", "true ? ^: 1", "true ^: 1", "true ? 1 : 2 ^: 3", "(true ? 1 ^)", "1 == 1 ^== 1", "1 == 1 ^!= 1",
            "1 < 1 ^< 1", "1 < 1 ^>= 1", "1 < 1 == 1 < 1 ^< 1", "1 < 1 == 1 < 1 ^== 1", "(1 == 1 ^== 1)", "true ? 1 == 1 ^== 1 : 2",
            "floor ^1", "floor(^)", "floor(1 ^, 2)", "floor(1^", "least(1 ^)", "least(1, 2 ^, 3)", "least(1, ^)", "least(^, 1)", "gcd ^[1", "gcd(1 ^]",
            "old ^a", "old(^1)", "old(^(a))", "old(a ^+ 1)", "old(a^", "old(^then)", "(int ^1", "(int^", "(int) ^", "(int) ^)", "(int ^+ 1)", "(^then)",
            "a[^]", "a[1 ^)", "a[1^", "a[1 ^, 2", "(1 ^]", "1 ^[1]", "(a)^[1]", "a[1]^[2]", "true ^(1)", "1 ^true", "ticks ^step", "ticks ^(", "^int", "^int(1)",
            "^part", "1 + ^then", "1 && ^&", "1 ^=> 1", "1 <= ^= 1", "1 == ^= 1", "1 ^= 1", "1 ^! = 1"};
        for (String text : texts) Check.refusedAskedAt(new TurningHall(), text, 1);
    }

    private static void numbers() {
        String[] bad = {"2147483648", "9223372036854775808l", "18446744073709551617", "1.", "1.l", "1.f", "1.5l", "1p1l", "1p", "1p-", "1p+1", "1p--1",
            "1x", "1e5", "1L", "1F", "1lf", "1fl", "1ff", "1.2.3", "1p1.5", "1p1p1", "1f2", "1then", "1p1101", "1p-1101", "0p1101", "1p1024", "1p128f",
            "3.5p127f", "1234567890123456.0", "0000000000000000.1", "0.000000000000001", "1234567890123456f", "1234567890123456p0", "1p99999999999999999999",
            "12345678901234567890l", "1abcdefghijklmn"};
        for (String number : bad) {
            Check.refusedAskedAt(new TurningHall(), "1 + ^" + number, 1);
            Check.refusedAt("cam c = ^" + number + ";", 1);
        }
        TurningHall hall = new TurningHall();
        Check.gives(hall, "2147483647", 4, 2147483647);
        Check.gives(hall, "000000000000000000000000000012", 4, 12);
        Check.gives(hall, "9223372036854775807l", 5, Long.MAX_VALUE);
        Check.gives(hall, "0000000000000000000000000l", 5, 0);
        Check.gives(hall, "1.5", 7, Check.bits(1.5));
        Check.gives(hall, "1p0", 7, Check.bits(1.0));
        Check.gives(hall, "1p-0", 7, Check.bits(1.0));
        Check.gives(hall, "1p0001", 7, Check.bits(2.0));
        Check.gives(hall, "5f", 6, Check.bits(5f));
        Check.gives(hall, "0.1", 7, Check.bits(0.1));
        Check.gives(hall, "0.1f", 6, Check.bits(0.1f));
        Check.gives(hall, "16777217f", 6, Check.bits(16777216f));
        Check.gives(hall, "12345678901234.5", 7, Check.bits(12345678901234.5));
        Check.gives(hall, "0.00000000000001p1070", 7, Check.bits(Math.scalb(1e-14, 1070)));
        Check.gives(hall, "999999999999999p-1100", 7, Check.bits(Math.scalb(999999999999999.0, -1100)));
        Check.gives(hall, "1p-1074", 7, 1);
        Check.gives(hall, "1p-1075", 7, 0);
        Check.gives(hall, "1.5p-1075", 7, 1);
        Check.gives(hall, "3p-1075", 7, 2);
        Check.gives(hall, "1p1023", 7, Check.bits(Math.scalb(1.0, 1023)));
        Check.gives(hall, "0p1100", 7, 0);
        Check.gives(hall, "1p127f", 6, Check.bits(Math.scalb(1f, 127)));
        Check.gives(hall, "1p-149f", 6, 1);
        Check.gives(hall, "1p-150f", 6, 0);
        Check.gives(hall, "1p-1100f", 6, 0);
        Check.gives(hall, "1-1", 4, 0);
        Check.gives(hall, "1p-1-1", 7, Check.bits(-0.5));
        // Divided and rounded first, then times 2 and rounded again: twice, not once.
        Check.gives(hall, "0.3p-1074", 7, Check.bits(Math.scalb(0.3, -1074)));
    }

    private static void nesting() {
        Halls hall = new Halls("part a : int = 1 then a; cam c = 1;");
        String[][] rows = {{"(", "1", ")"}, {"-", "1", ""}, {"(int)", "1", ""}, {"abs(", "1", ")"}, {"least(1,", "1", ")"}, {"1+(", "1", ")"},
            {"true?1:", "1", ""}, {"true?", "1", ":1"}, {"c[(int)", "1", "]"}};
        for (String[] row : rows) {
            int each = row[0].equals("c[(int)") ? 2 : 1;
            int most = 40 / each;
            Check.due("40 of " + row[0], Check.ask(hall, times(row[0], most) + row[1] + times(row[2], most)) < 0, false);
            int at = row[0].equals("abs(") ? 3 : row[0].equals("least(1,") ? 5 : row[0].equals("1+(") ? 2 : row[0].startsWith("true") ? 4 : row[0].startsWith("c") ? 1 : 0;
            Check.refusedAsked(hall, times(row[0], most) + row[0] + row[1] + times(row[2], most + 1), 1, most * row[0].length() + at);
        }
        Check.due("40 of !", Check.ask(hall, times("!", 40) + "true"), 0);
        Check.refusedAsked(hall, times("!", 41) + "true", 1, 40);
        Check.due("old within 39", Check.ask(hall, times("(", 39) + "old(a)" + times(")", 39)), 4);
        Check.refusedAsked(hall, times("(", 40) + "old(a)" + times(")", 40), 1, 43);
        Check.refusedAsked(hall, times("(", 40) + "c[0]" + times(")", 40), 1, 41);
        Check.refusedAsked(hall, times("(", 40) + "-1" + times(")", 40), 1, 40);
        // Each ends where what it brackets ends: these stand beside, not within others.
        Check.due("beside", Check.ask(hall, times("-1+(1)+", 60) + "1"), 4);
        Check.due("indexes beside", Check.ask(hall, times("c[0]+", 60) + "1"), 7);
        Check.due("functions beside", Check.ask(hall, times("abs(1)+least(1,1)+", 50) + "1"), 7);
        Check.due("old beside", Check.ask(hall, times("old(a)+", 60) + "1"), 4);
        Check.due("? beside", Check.ask(hall, times("(true?1:2)+", 60) + "1"), 4);
        Check.due("! beside", Check.ask(hall, times("!true||", 60) + "true"), 0);
        Check.due("casts beside", Check.ask(hall, times("(int)1+", 60) + "1"), 4);
        Check.due("40 again behind 40", Check.ask(hall, times("(", 40) + "1" + times(")", 40) + "+" + times("(", 40) + "1" + times(")", 40)), 4);
        Check.due("? behind a - is not within it", Check.ask(hall, times("-1==1?1:", 40) + "1"), 4);
        Check.refusedAsked(hall, times("-1==1?1:", 40) + "-1", 1, 320);
        // Each formula of a plan begins anew.
        Check.accepted("part a:int=" + times("(", 40) + "1" + times(")", 40) + " then " + times("-", 40) + "1;", 1);
        Check.refused("part a:int=" + times("(", 41) + "1" + times(")", 41) + " then 1;", 1, 51);
    }

    private static String many(String head, int many, String tail) {
        StringBuilder text = new StringBuilder();
        for (int k = 0; k < many; k++) text.append(head).append(k).append(tail);
        return text.toString();
    }

    private static void tooMuch() {
        String things = many("show t", 40, ":int=1;");
        Check.accepted(things, 40);
        Check.refused(things + "show x:int=1;", 2, things.length() + 5);
        Check.refused(things + "part t1:int=1 then zzz;", 2, things.length() + 5);
        String bells = many("bell b", 12, " when true;");
        Check.accepted(bells, 0);
        Check.refused(bells + "bell x when true;", 2, bells.length() + 5);
        String cams = many("cam c", 8, "=1;");
        Check.accepted(cams, 0);
        Check.refused(cams + "cam x=1;", 2, cams.length() + 4);
        Check.accepted("cam c=" + times("1,", 23) + "1;", 0);
        Check.refused("cam c=" + times("1,", 24) + "- 1;", 2, 56);
        Check.refused("cam c=" + times("1,", 30) + "- 1;show y:int=z;", 2, 54);
        Check.accepted(things + bells + cams, 40);
        TurningHall all = new TurningHall();
        String parts = many("part t", 40, ":int=1 then t0+1;");
        Check.due("all that there can be", Check.plan(all, cams + bells + parts), 40);
        all.tick(2);
        Check.due("the last part turns", all.value(39, 0), 4);
        Check.due("the last bell strikes", all.thing(111, 6), 2);
        Check.due("there is no 13th", all.thing(112, 6), -1);
        Check.due("the last bell's name", all.letter(111, 2), '1');
        Check.due("the last cam's name", all.letter(207, 1), '7');
        Check.due("the last part's name", all.letter(39, 2), '9');
        // Of several the first along the text.
        Check.refused("cam c=" + times("1,", 24) + "1;" + things + "show x:int=1;", 2, 54);
        // READING goes ahead of it, wherever it stands.
        Check.refused(things + "show x:int=1;;", 1, things.length() + 13);

        Halls hall = new Halls("part a : int = 1 then a; cam c = 1;");
        Check.due("499 nodes", Check.ask(hall, times("1+", 249) + "1"), 4);
        Check.due("500 nodes", Check.ask(hall, times("1+", 249) + "-1"), 4);
        Check.refusedAsked(hall, times("1+", 250) + "1", 2, 500);
        Check.refusedAsked(hall, "-" + times("1+", 250) + "1", 2, 500);
        Check.refusedAsked(hall, "-" + times("1+", 249) + "1+1", 2, 500);
        Check.refusedAsked(hall, times("1+", 251) + "zzz", 2, 500);
        Check.refusedAsked(hall, times("1+", 251), 1, 502);
        // What counts as a node, each on the 500th and 501st.
        String[] nodes = {"!true", "-1", "true", "false", "ticks", "step", "floor(1)", "old(a)", "c[0]", "a", "(int)1", "1"};
        for (String node : nodes) Check.refusedAsked(hall, times("1+", 250) + node, 2, 500);
        for (String sign : new String[] {"+", "==", "<", "&&", "||", "%", "?"}) {
            Check.refusedAsked(hall, "-" + times("1+", 249) + "1 " + sign + (sign.equals("?") ? "1:1" : "1"), 2, 501);
        }
        // Brackets, commas and old's NAME are none.
        Check.due("brackets are no nodes", Check.ask(hall, times("(1)+", 249) + "((old(a)))"), 4);
        Check.due("least is one", Check.ask(hall, "least(1,1)+" + times("1+", 247) + "1"), 4);
        Check.refusedAsked(hall, "least(1,1)+" + times("1+", 248) + "1", 2, 11 + 496);
        // A plan counts all its formulas, not its cams.
        String half = "part a:int=" + times("1+", 124) + "1 then " + times("1+", 125) + "1;";
        TurningHall full = new TurningHall();
        Check.due("500 nodes and a cam", Check.plan(full, half + "cam c=1,2,3;"), 1);
        Check.due("count(3)", full.count(3), 500);
        Check.refused(half + "bell b when true;", 2, half.length() + 12);
        Check.refused("bell b when x[1];" + half, 2, half.length() + 17 - 3);
    }

    private static void names() {
        String[] texts = {"part a:int=1 then 1;part ^a:int=1 then 1;", "part a:int=1 then 1;cam ^a=1;", "cam a=1;bell ^a when true;", "bell a when true;show ^a:int=1;",
            "cam a=1;cam ^a=1;", "part a:int=^a then 1;", "part a:int=^b then 1;part b:int=1 then 1;", "show a:int=^b;show b:int=1;", "show a:int=old(^a);",
            "show a:int=1;show b:int=a+^c+d;", "show a:double=^c[0];cam c=1;", "show a:double=^a[0];", "cam c=1;show a:double=^c;", "bell b when true;show a:truth=^b;",
            "bell b when ^b;", "bell b when ^c;cam c=1;", "bell b when ^a[0]>1;show a:int=1;", "bell b when ^x[y]>1;", "part a:int=1 then old(^c);cam c=1;",
            "part a:int=1 then ^zz;part a:int=1 then 1;", "show a:int=^A;", "show b:int=1;show a:int=^bb;", "show bb:int=1;show a:int=^b;"};
        for (String text : texts) Check.refusedAt(text, 3);
        Check.accepted("part a:int=1 then b+a;part b:int=a then old(a);", 2);
        Check.accepted("part a:double=1 then c[0];cam c=1;", 1);
        Check.accepted("bell b when a>1&&c[0]>1;part a:int=1 then 1;cam c=1;", 1);
        Check.accepted("cam c=1;show a:double=c[0];", 1);
        // A thing that is told behind a cam of its name is still one in the plan: the second NAME alone is at fault.
        Check.refusedAt("part p:int=1 then q;cam q=1;part ^q:int=2 then 3;", 3);
        // A fault of names is told, even with one of sorts ahead of it.
        Check.refusedAt("show a:int=true;show b:int=^x;", 3);
        TurningHall hall = new TurningHall();
        Check.refusedAskedAt(hall, "^a", 3);
        Check.plan(hall, "part a:int=1 then 1;cam c=1;bell b when true;");
        Check.refusedAskedAt(hall, "a+^b", 3);
        Check.refusedAskedAt(hall, "^c", 3);
        Check.refusedAskedAt(hall, "^a[1]", 3);
        Check.refusedAskedAt(hall, "c[^d]", 3);
        Check.refusedAskedAt(hall, "true+^d", 3);
        Check.refusedAskedAt(hall, "old(^c)", 3);
        Check.gives(hall, "c[a-1]+old(a)", 7, Check.bits(2.0));
    }

    private static final String ONE_OF_EACH = "show t:truth=true;show b:byte=(byte)1;show s:short=(short)1;show c:char=(char)1;"
        + "show i:int=1;show l:long=1;show f:float=1;show d:double=1;";

    private static TurningHall sortedHall() {
        TurningHall hall = new TurningHall();
        Check.plan(hall, ONE_OF_EACH + "cam m=1,2;");
        return hall;
    }

    private static void sorts() {
        TurningHall hall = sortedHall();
        String[] texts = {"t ^+ 1", "1 ^- t", "t ^* t", "t ^/ 1", "1 ^% t", "t ^< t", "1 ^<= t", "t ^> 1", "t ^>= t", "t ^== 1", "d ^!= t", "1 ^&& t", "t ^&& 1", "t ^|| d",
            "1 ^|| t", "^!1", "^-t", "^(int)t", "^(truth)1", "^(double)t", "^floor(t)", "^ceil(t)", "^rint(t)", "^abs(t)", "^least(t,1)", "^most(1,t)", "^least(t,t)", "^gcd(t,1)",
            "^gcd(1,t)", "m^[l]", "m^[f]", "m^[d]", "m^[t]", "1 ^? 1 : 1", "t ^? t : 1", "t ^? 1 : t", "d ^? t : t",
            // Parts ahead of their sign, from the left.
            "(1 ^+ t) + (1 + t)", "t + (t ^* 1)", "1 && (t ^+ 1)", "1 ? (t ^+ 1) : (t + 2)", "1 ? 1 : (t ^+ 2)", "-(t ^+ 1) + t", "floor(m^[l] + t)", "least(t, t ^+ 1)",
            "(int)(t ^+ 1) + t"};
        for (String text : texts) Check.refusedAskedAt(hall, text, 4);
        Check.gives(hall, "(1<2)==(2<3)", 0, 1);
        Check.gives(hall, "m[b]+m[s]+m[c]+m[i]", 7, Check.bits(8.0));
        String[] names = {"t", "b", "s", "c", "i", "l", "f", "d"};
        for (int a = 1; a < 8; a++) {
            Check.due("-" + names[a], Check.ask(hall, "-" + names[a]), Math.max(a, 4));
            Check.due("floor " + names[a], Check.ask(hall, "floor(" + names[a] + ")"), 7);
            for (int b = 1; b < 8; b++) {
                int joined = Math.max(4, Math.max(a, b));
                for (String sign : new String[] {"+", "-", "*", "/", "%"}) Check.due("sorts", Check.ask(hall, names[a] + sign + names[b]), joined);
                for (String sign : new String[] {"<", "<=", ">", ">=", "==", "!="}) Check.due("sorts", Check.ask(hall, names[a] + sign + names[b]), 0);
                Check.due("least", Check.ask(hall, "least(" + names[a] + "," + names[b] + ")"), joined);
                Check.due("most", Check.ask(hall, "most(" + names[a] + "," + names[b] + ")"), joined);
                Check.due("gcd", Check.ask(hall, "gcd(" + names[a] + "," + names[b] + ")"), 7);
                Check.due("?", Check.ask(hall, "t?" + names[a] + ":" + names[b]), joined);
                hall = sortedHall();
            }
        }
        String[] sorts = {"truth", "byte", "short", "char", "int", "long", "float", "double"};
        String[] takes = {"t", "b", "bs", "c", "bsci", "bscil", "bscilf", "bscilfd"};
        for (int to = 0; to < 8; to++) {
            for (int from = 0; from < 8; from++) {
                String head = ONE_OF_EACH;
                boolean fine = takes[to].contains(names[from]);
                String show = head + "show x:" + sorts[to];
                String part = head + "part x:" + sorts[to] + "=(" + sorts[to] + ")" + (to == 0 ? "t" : "1") + " ";
                TurningHall one = new TurningHall();
                Check.due(sorts[to] + "=" + names[from], Check.plan(one, show + "=" + names[from] + ";"), fine ? 9 : -1 - show.length());
                Check.due("kind", one.fault(), fine ? 0 : 4);
                Check.due(sorts[to] + " then " + names[from], Check.plan(one, part + "then " + names[from] + ";"), fine ? 9 : -1 - part.length());
                Check.due("kind", one.fault(), fine ? 0 : 4);
            }
        }
        Check.refusedAt("bell b ^when 1;", 4);
        Check.refusedAt("part a:byte^=1 then true;", 4);
        Check.refusedAt("part a:int=1 ^then 1l;bell b when 1;", 4);
        Check.refusedAt("part a:int=1 then 1 ^+ true;", 4);
        Check.refusedAt("bell b when x ^+ 1;part x:truth=true then 1;", 4);
        Check.refusedAt("show a:int^=true;bell b when 1;", 4);
    }

    public static void main(String[] args) {
        readingPlans();
        readingFormulas();
        numbers();
        nesting();
        tooMuch();
        names();
        sorts();
        Check.close("FaultsTest");
    }
}
