/** Each sentence of "Terms", part 2, about FAULTS and the SORTS of an E, at its bounds. */
public final class EdgesOfFaultsTest {
    private static final String[] NAMES = {"t", "b", "s", "c", "i", "l", "f", "d"};
    private static final String[] SORTS = {"truth", "byte", "short", "char", "int", "long", "float", "double"};
    private static final String ONE_OF_EACH = "show t:truth=true;show b:byte=(byte)1;show s:short=(short)1;show c:char=(char)1;"
        + "show i:int=1;show l:long=1;show f:float=1;show d:double=1;";

    private static String times(String text, int many) {
        return text.repeat(many);
    }

    private static String many(String head, int from, int to, String tail) {
        StringBuilder text = new StringBuilder();
        for (int k = from; k < to; k++) text.append(head).append(k).append(tail);
        return text.toString();
    }

    private static Halls oneOfEach() {
        return new Halls(ONE_OF_EACH + "cam m=1,2;");
    }

    private static void leastKind() {
        Check.sentence("FAULTS, the least kind that there is; of one kind (whatever breaks it) the first along the text:");
        String things = many("show t", 0, 40, ":int=1;");
        // READING ahead of TOO MUCH ahead of NAMES ahead of SORTS, wherever each stands.
        Check.refusedAt(things + "show x:int=zz+true;^;", 1);
        Check.refusedAt(things + "show ^x:int=zz+true;", 2);
        Check.refusedAt("show a:int=zz+true;" + many("show t", 1, 40, ":int=1;") + "show ^x:int=1;", 2);
        Check.refusedAt("show a:int=1+true;show b:int=^zz;", 3);
        Check.refusedAt("show a:int=1^+true;show b:int=1;", 4);
        Check.refusedAt("show a:int=true;show b:int=^zz;show c:int=1+true;", 3);
        // Of one kind the first, whatever breaks it.
        Check.refusedAt("show a:int=1 ^1;show abcdefghijk:int=1;", 1);
        Check.refusedAt("show abcdefghij^k:int=1 1;", 1);
        Check.refusedAt("cam c=" + times("1,", 24) + "^1;" + things + "show x:int=1;", 2);
        Check.refusedAt(things + "show ^x:int=1;cam c=" + times("1,", 24) + "1;", 2);
        Check.refusedAt("show a:int=" + times("1+", 250) + "^1;" + many("show t", 0, 40, ":int=1;"), 2);
        Check.refusedAt("show a:int=1;show b:int=^zz;show a:int=1;", 3);
        Check.refusedAt("show a:int=1;show ^a:int=1;show b:int=zz;", 3);
        Check.refusedAt("part a:int=1 then ^zz;cam a=1;bell a when yy;", 3);
        Check.refusedAt("show a:int=1;cam ^a=1;bell a when yy;", 3);
        TurningHall hall = new TurningHall();
        Check.refusedAskedAt(hall, times("1+", 250) + "zz ^1", 1);
        Check.refusedAskedAt(hall, "zz+true+" + times("1+", 248) + "^1", 2);
        Check.refusedAskedAt(hall, "1+true+^zz", 3);
        Check.refusedAskedAt(hall, "1^+true", 4);
    }

    private static void firstToken() {
        Check.sentence("1 READING: the first token with which no PLAN (E) goes on, at its first byte (the text's length, if more must come);");
        String plan = "part a : int = 1 + 2 then old ( a ) ; show b : int = a ; cam c = - 1 , 2 ; bell d when c [ 0 ] > 1.0 ;";
        // Cut behind each token more must come, but behind each ; (and at the beginning) it is whole.
        for (int at = plan.indexOf(' '); at >= 0; at = plan.indexOf(' ', at + 1)) {
            String text = plan.substring(0, at);
            if (text.endsWith(";")) continue;
            Check.refused(text, 1, text.length());
            Check.refused(text + " \n", 1, text.length() + 2);
            // A byte that is no token in its place is the fault itself.
            Check.refused(text + " #" + plan.substring(at), 1, text.length() + 1);
        }
        Check.accepted(plan, 2);
        TurningHall hall = Check.hall("part a:int=1 then 1;cam c=1;");
        String asked = "( true ? least ( 1 , - 2 ) : c [ 0 ] ) + old ( a ) * ( int ) 2";
        for (int at = asked.indexOf(' '); at >= 0; at = asked.indexOf(' ', at + 1)) {
            String text = asked.substring(0, at);
            boolean whole = text.endsWith("0 ] )") || text.endsWith("( a )");
            if (!whole) Check.refusedAsked(hall, text, 1, text.length());
            if (!whole) Check.refusedAsked(hall, text + "\t\t", 1, text.length() + 2);
            Check.refusedAsked(hall, text + " # " + asked.substring(at), 1, text.length() + 1);
        }
        Check.due("the whole of it", Check.ask(hall, asked), 7);
        Check.refusedAsked(hall, "", 1, 0);
        Check.refusedAsked(hall, " \n\t", 1, 3);
        Check.refusedAskedAt(hall, "1 ^;", 1);
        Check.refusedAskedAt(hall, "^part a:int=1 then 1;", 1);
        Check.refusedAt("^1+1", 1);
        Check.refusedAt("show a:int=1;^;", 1);
    }

    private static void noToken() {
        Check.sentence("so a byte that begins no token,");
        String begins = ":;,=?()[]+-*/%!<>";
        Halls hall = new Halls();
        for (int c = 0; c < 256; c++) {
            char b = (char) c;
            boolean blank = c == 9 || c == 10 || c == 32;
            boolean token = b < 128 && Character.isLetterOrDigit(b) || begins.indexOf(b) >= 0;
            if (blank || token) continue;
            Check.refused("show a:int=1;" + b, 1, 13);
            Check.refused("show " + b + ":int=1;", 1, 5);
            Check.refused("show a:int=1 " + b + ";", 1, 13);
            Check.refusedAsked(hall, "1+" + b + "1", 1, 2);
            Check.refusedAsked(hall, "" + b, 1, 0);
        }
        // & and | begin one by two alone.
        Check.refusedAskedAt(hall, "true ^&", 1);
        Check.refusedAskedAt(hall, "true ^& &true", 1);
        Check.refusedAskedAt(hall, "true ^|&true", 1);
        Check.refusedAskedAt(hall, "true&& ^&true", 1);
        Check.refusedAskedAt(hall, "true|| ^|true", 1);
    }

    private static void eleventhByte() {
        Check.sentence("the 11th byte of letters and digits that are no WORD (also where no NAME could stand),");
        Check.refusedAt("show abcdefghij^k:int=1;", 1);
        Check.refusedAt("show a123456789^0:int=1;", 1);
        Check.refusedAt("show abcdefghij^" + times("k", 100) + ":int=1;", 1);
        Check.refusedAt("abcdefghij^k", 1);
        Check.refusedAt("showshowsh^ow a:int=1;", 1);
        Check.refusedAt("show a:intintinti^nt=1;", 1);
        Check.refusedAt("show a:int=1 abcdefghij^k;", 1);
        Check.refusedAt("part a:int=1 thenthenth^en 1;", 1);
        Check.refusedAt("cam c=abcdefghij^k;", 1);
        Check.refusedAt("show a abcdefghij^k", 1);
        TurningHall hall = new TurningHall();
        Check.refusedAskedAt(hall, "1 abcdefghij^k", 1);
        Check.refusedAskedAt(hall, "abcdefghij^k", 1);
        Check.refusedAskedAt(hall, "old abcdefghij^k", 1);
        // With 10 bytes it is a NAME, whose fault where none could stand is at its first byte.
        Check.refusedAt("^abcdefghij", 1);
        Check.refusedAt("show a:int=1 ^abcdefghij;", 1);
        Check.refusedAskedAt(hall, "^abcdefghij", 3);
        Check.accepted("show abcdefghij:int=1;", 1);
    }

    private static void numberNotAsTold() {
        Check.sentence("a NUMBER that is not as told (at its beginning),");
        TurningHall hall = new TurningHall();
        for (String bad : new String[] {"2147483648", "9223372036854775808l", "1.5l", "1p1101", "1234567890123456.0", "1p1024", "1.", "1p", "1abcdefghijklmn"}) {
            Check.refusedAskedAt(hall, "^" + bad, 1);
            Check.refusedAskedAt(hall, "1 ^" + bad, 1);
            Check.refusedAskedAt(hall, "-(^" + bad + ")", 1);
            Check.refusedAt("show a:int=1+^" + bad + ";", 1);
            Check.refusedAt("cam c=1,- ^" + bad + ";", 1);
            Check.refusedAt("^" + bad, 1);
            Check.refusedAt("show ^" + bad, 1);
        }
    }

    /** What opens, as often as it may stand within one another, and once more: the fault is at a byte of the last. */
    private static void within(Halls hall, String open, String middle, String close, int at) {
        Check.due("40 of " + open, Check.ask(hall, times(open, 40) + middle + times(close, 40)) >= 0, true);
        Check.refusedAsked(hall, times(open, 41) + middle + times(close, 41), 1, 40 * open.length() + at);
        Check.refusedAsked(hall, times(open, 45) + middle + times(close, 45), 1, 40 * open.length() + at);
    }

    private static void nesting() {
        Check.sentence("any ( (a function's, old's, a cast's, too), [ , ? , - or ! ahead within 40 others of these");
        Halls hall = new Halls("part a:int=0 then a;cam c=0,1;");
        within(hall, "(", "1", ")", 0);
        within(hall, "1+(", "1", ")", 2);
        within(hall, "-", "1", "", 0);
        within(hall, "!", "true", "", 0);
        within(hall, "(int)", "1", "", 0);
        within(hall, "( truth )", "true", "", 0);
        for (String word : new String[] {"floor", "ceil", "rint", "abs"}) within(hall, word + "(", "1", ")", word.length());
        for (String word : new String[] {"least", "most", "gcd"}) {
            within(hall, word + "(1,", "1", ")", word.length());
            within(hall, word + " (", "1", ",1)", word.length() + 1);
        }
        within(hall, "true?1:", "1", "", 4);
        within(hall, "true?", "1", ":1", 4);
        // old's ( and a cam's [ as the 40th and the 41st.
        Check.due("old within 39", Check.ask(hall, times("(", 39) + "old(a)" + times(")", 39)), 4);
        Check.refusedAskedAt(hall, times("(", 40) + "old^(a)" + times(")", 40), 1);
        Check.due("[ within 39", Check.ask(hall, times("-", 39) + "c[a]"), 7);
        Check.refusedAskedAt(hall, times("-", 40) + "c^[a]", 1);
        Check.due("20 of [ and a cast each", Check.ask(hall, times("c[(int)", 20) + "0" + times("]", 20)), 7);
        Check.refusedAskedAt(hall, times("c[(int)", 20) + "c^[0" + times("]", 21), 1);
        // Of each as the 41st within others.
        for (String last : new String[] {"^(1)", "^-1", "^(int)1", "floor^(1)", "gcd^(1,1)", "true^?1:1", "c^[0]", "^!true", "1+^-1"}) {
            Check.refusedAskedAt(hall, times("(", 40) + last + times(")", 40), 1);
            int at = last.indexOf('^');
            String fine = last.substring(0, at) + last.substring(at + 1);
            Check.due("within 39: " + fine, Check.ask(hall, times("(", 39) + fine + times(")", 39)) >= 0, true);
        }
        // What is no such sign may stand within 40.
        Check.due("signs of two parts", Check.ask(hall, times("(", 40) + "1-1+2*3" + times(")", 40)), 4);
        Check.due("a NAME", Check.ask(hall, times("-", 40) + "a"), 4);
        Check.accepted("cam c=-1,-2;show a:int=" + times("-", 40) + "1;", 1);
    }

    private static void reach() {
        Check.sentence("(each reaches to the end of what it brackets or is ahead of, a cast's ( to the end of its U, ? to the end of its last E).");
        Halls hall = new Halls("part a:int=0 then a;cam c=0,1;");
        // These stand beside one another, not within: each has ended ahead of the next.
        for (String one : new String[] {"(1)", "-1", "abs(1)", "least(1,1)", "c[0]", "old(a)", "(int)1", "(true?1:1)", "-(-1)", "c[-1+1]", "(int)-(1)"}) {
            Check.due("60 of " + one, Check.ask(hall, times(one + "+", 60) + "1") >= 0, true);
            Check.due("40 behind it", Check.ask(hall, one + "+" + times("(", 40) + "1" + times(")", 40)) >= 0, true);
        }
        Check.due("! beside", Check.ask(hall, times("!true||", 60) + "true"), 0);
        Check.due("40 and 40", Check.ask(hall, times("(", 40) + "1" + times(")", 40) + "*" + times("-", 40) + "1"), 4);
        // A - reaches over no sign of two parts, and not over the ? behind it.
        Check.due("- ahead of 40 ?", Check.ask(hall, times("-1==1?1:", 40) + "1"), 4);
        Check.refusedAskedAt(hall, times("-1==1?1:", 40) + "^-1", 1);
        Check.due("a cast ahead of 40 ?", Check.ask(hall, times("(int)1==1?1:", 40) + "1"), 4);
        Check.due("( ) ahead of 40 ?", Check.ask(hall, times("(true)?1:", 40) + "1"), 4);
        // ? is around its two last parts, and around what stands in them.
        Check.due("39 in the middle", Check.ask(hall, "true?" + times("(", 39) + "1" + times(")", 39) + ":1"), 4);
        Check.refusedAskedAt(hall, "true?" + times("(", 39) + "^(1" + times(")", 40) + ":1", 1);
        Check.refusedAskedAt(hall, "true?1:" + times("(", 39) + "^(1" + times(")", 40), 1);
        Check.refusedAskedAt(hall, "true?1:2+" + times("(", 39) + "^(1" + times(")", 40), 1);
        Check.due("40 ahead of its sign", Check.ask(hall, times("(", 40) + "true" + times(")", 40) + "?1:1"), 4);
        Check.due("40 behind the ) that ends it", Check.ask(hall, "(true?1:1)+" + times("(", 40) + "1" + times(")", 40)), 4);
        // A - is around all that its U brackets.
        Check.refusedAskedAt(hall, "-c[" + times("(", 38) + "^(1" + times(")", 39) + "]", 1);
        Check.due("38 within - and [", Check.ask(hall, "-c[" + times("(", 38) + "1" + times(")", 38) + "]"), 7);
        Check.due("a [ that has ended", Check.ask(hall, "-c[0]+" + times("(", 40) + "1" + times(")", 40)), 7);
        // Each formula begins anew.
        Check.accepted("part a:int=" + times("(", 40) + "1" + times(")", 40) + " then " + times("-", 40) + "1;bell b when " + times("!", 40) + "true;", 1);
        Check.refusedAt("part a:int=" + times("(", 40) + "^(1" + times(")", 41) + " then 1;", 1);
        Check.refusedAt("part a:int=1 then " + times("-", 40) + "^-1;", 1);
        Check.refusedAt("bell b when " + times("!", 40) + "^!true;", 1);
    }

    private static void tooManyNames() {
        Check.sentence("2 TOO MUCH, at the token: the NAME of the 41st thing, 13th bell, 9th cam;");
        String things = many("show t", 0, 20, ":int=1;") + many("part t", 20, 40, ":int=1 then 1;");
        String bells = many("bell b", 0, 12, " when true;");
        String cams = many("cam c", 0, 8, "=1;");
        Check.accepted(things, 40);
        Check.refusedAt(things + "show ^x:int=1;", 2);
        Check.refusedAt(things + "part  ^x:int=1 then 1;", 2);
        Check.refusedAt(things + "show ^x:int=1;show y:int=1;", 2);
        Check.accepted(bells, 0);
        Check.refusedAt(bells + "bell ^x when true;", 2);
        Check.accepted(cams, 0);
        Check.refusedAt(cams + "cam ^x=1;", 2);
        Check.accepted(things + bells + cams, 40);
        Check.accepted(cams + bells + things, 40);
        Check.refusedAt(cams + things + bells + "bell ^b12 when true;", 2);
        // A NAME that was told is one too much all the same.
        Check.refusedAt(things + "show ^t1:int=1;", 2);
    }

    private static void tooManyNumbers() {
        Check.sentence("a cam's 25th NUMBER;");
        TurningHall hall = Check.hall("cam c=" + times("1,", 23) + "7;");
        Check.gives(hall, "c[23]", 7, Check.bits(7.0));
        Check.due("it has no 25th", Check.ask(hall, "c[24]"), 12);
        Check.refusedAt("cam c=" + times("1,", 24) + "^1;", 2);
        Check.refusedAt("cam c=" + times("1,", 24) + "- ^1;", 2);
        Check.refusedAt("cam c=" + times("1,", 24) + "^1,2,3,4;", 2);
        Check.accepted("cam c=" + times("1,", 23) + "1;cam d=" + times("1,", 23) + "1;", 0);
        Check.refusedAt("cam c=" + times("1,", 23) + "1;cam d=" + times("1,", 24) + "^1;", 2);
    }

    private static void tooManyNodes() {
        Check.sentence("the 501st NODE of all formulas (of an E that is asked: of it alone), in the order of their tokens:");
        TurningHall hall = new TurningHall();
        Check.due("499", Check.ask(hall, times("1+", 249) + "1"), 4);
        Check.due("500", Check.ask(hall, times("1+", 249) + "-1"), 4);
        Check.refusedAskedAt(hall, times("1+", 250) + "^1", 2);
        Check.refusedAskedAt(hall, times("1+", 250) + "^1+1", 2);
        // The rest is read to its end, of 3000 bytes, too.
        Check.refusedAskedAt(Check.hall("show a:int=1;"), times("a+", 250) + "^a" + times("+a", 1249), 2);
        Check.refusedAskedAt(Check.hall("show a:int=1;"), times("a+", 1499) + "a^;", 1);
        Check.refusedAskedAt(new TurningHall(), times("(1)+", 250) + "(^1)" + times("+(1)", 499), 2);
        Check.refusedAskedAt(new TurningHall(), times("(1)+", 749) + "(1^]", 1);
        // In the order of the tokens, not of working out.
        Check.refusedAskedAt(hall, "-" + times("1+", 249) + "1^+1", 2);
        Check.refusedAskedAt(hall, "-(" + times("1+", 249) + "1)^*(1)", 2);
        // All formulas of a plan: behind = and then, of shows and bells.
        String full = "part a:int=" + times("1+", 124) + "1 then " + times("1+", 125) + "1;";
        TurningHall plan = new TurningHall();
        Check.due("500 of a plan", Check.plan(plan, full), 1);
        Check.due("count(3)", plan.count(3), 500);
        Check.refusedAt(full + "bell b when ^true;", 2);
        Check.refusedAt(full + "show b:int=^1;", 2);
        Check.refusedAt("bell b when true;part a:int=" + times("1+", 124) + "1 then " + times("1+", 125) + "^1;", 2);
        Check.refusedAt("part a:int=" + times("1+", 250) + "^1 then 1;", 2);
        Check.accepted(full + "cam c=1,2,3,-4;", 1);
        // Of an E that is asked those of the plan don't count.
        Check.due("500 beside 500", Check.ask(plan, times("1+", 249) + "-1"), 4);
        Check.refusedAskedAt(plan, times("1+", 250) + "^1", 2);
        Check.due("and leave count(3)", plan.count(3), 500);
    }

    private static void whatIsANode() {
        Check.sentence("each sign of two parts, - and ! ahead, ? , cast (its ( ), NUMBER, true, false, ticks, step, function word, old (with its NAME), a cam's NAME (with its [ ), another NAME in an E.");
        Halls hall = new Halls("part a:int=1 then 1;cam c=1;");
        String[] nodes = {"^1", "^true", "^false", "^ticks", "^step", "^old(a)", "^c[0]", "^a", "^-1", "^!true", "^(int)1", "^(double)a", "^floor(1)", "^ceil(1)", "^rint(1)", "^abs(1)",
            "^least(1,1)", "^most(1,1)", "^gcd(1,1)", "(^1)", "((^a))", "(^(int)1)"};
        for (String node : nodes) Check.refusedAskedAt(hall, times("1+", 250) + node, 2);
        for (String sign : "+ - * / % < <= > >= == != && ||".split(" ")) Check.refusedAskedAt(hall, "-" + times("1+", 249) + "1^" + sign + "1", 2);
        Check.refusedAskedAt(hall, "-" + times("1+", 249) + "1^?1:1", 2);
        // How many each is: what stands behind 500 less so many is at the end of what there may be.
        String[] texts = {"1", "a", "true", "ticks", "step", "old(a)", "old ( a )", "(1)", "((a))", "-1", "(int)1", "-(1)", "c[0]", "c[a]", "floor(1)", "floor((1))", "least(1,1)",
            "gcd(1,(1))", "1*1", "(1*1)", "(true?1:1)", "(!true?1:1)", "-(int)1", "c[(int)1]"};
        int[] counts = {1, 1, 1, 1, 1, 1, 1, 1, 1, 2, 2, 2, 2, 2, 2, 2, 3, 3, 3, 3, 4, 5, 3, 3};
        for (int k = 0; k < texts.length; k++) {
            TurningHall plan = new TurningHall();
            String tail = k == 2 ? "part x:truth=true then " + texts[k] : "part x:double=1 then " + texts[k];
            Check.due("plan with " + texts[k], Check.plan(plan, "part a:int=1 then 1;cam c=1;" + tail + ";"), 2);
            Check.due("count(3) with " + texts[k], plan.count(3), 3 + counts[k]);
        }
    }

    private static void toldTwice() {
        Check.sentence("3 NAMES: a NAME told for the second time (of things, cams, bells together), at it;");
        String[] told = {"part @:int=1 then 1;", "show @:int=1;", "cam @=1;", "bell @ when true;"};
        for (String first : told) {
            for (String second : told) {
                Check.refusedAt((first + second.replace("@", "^@")).replace("@", "same"), 3);
                Check.refusedAt((first + "show x:int=1;" + second.replace("@", "^@") + second).replace("@", "same"), 3);
                Check.due("two NAMES", Check.plan(new TurningHall(), first.replace("@", "one") + second.replace("@", "two")) >= 0, true);
            }
        }
        Check.accepted("show a:int=1;show A:int=1;show aa:int=1;show a1:int=1;", 4);
        Check.accepted("show abcdefghij:int=1;show abcdefghi:int=1;show abcdefghik:int=1;", 3);
    }

    private static void nameAhead() {
        Check.sentence("a NAME in an E that is no thing (ahead of [ no cam) told ahead of this one;");
        String[] texts = {"show a:int=^zz;", "show a:int=^a;", "part a:int=^a then 1;", "show a:int=old(^a);", "show a:int=^b;show b:int=1;", "show a:double=^c[0];cam c=1;",
            "cam c=1;show a:double=^c;", "show b:int=1;show a:double=^b[0];", "bell b when true;show a:truth=^b;", "cam c=1;show a:int=old(^c);", "show b:int=1;show a:int=b+^c+d;",
            "cam c=1;show a:double=c[^d];", "cam c=1;show a:double=^d[zz];", "show a:int=1;show b:int=^A;", "show ab:int=1;show b:int=^a;", "show a:int=1;show b:int=^ab;",
            "bell b when true;cam c=1;show a:double=^b[0];"};
        for (String text : texts) Check.refusedAt(text, 3);
        Check.accepted("show a:int=1;show b:int=a+old(a);cam c=1;show d:double=c[a]+b;", 3);
    }

    private static void nameAnywhere() {
        Check.sentence("but behind then and when, and of an E that is asked: anywhere in the plan.");
        Check.accepted("part a:int=1 then a+b+old(b)+(int)c[0];part b:int=1 then a;cam c=1;", 2);
        Check.accepted("bell x when a>1&&c[0]>1;show a:int=1;cam c=1;", 1);
        for (String text : new String[] {"part a:int=1 then ^zz;", "part a:double=1 then ^c;cam c=1;", "part a:double=1 then ^a[0];cam c=1;", "bell x when ^x;", "bell x when ^y;bell y when true;",
            "part a:int=1 then old(^c);cam c=1;", "bell x when old(^x);", "part a:int=^b then b;part b:int=1 then 1;"}) Check.refusedAt(text, 3);
        TurningHall hall = Check.hall("part a:int=1 then 1;cam c=1;bell x when true;show b:int=2;");
        Check.gives(hall, "a+b*10+(int)c[a-1]+old(b)", 4, 24);
        for (String text : new String[] {"^zz", "^c", "^x", "^a[0]", "old(^c)", "old(^x)", "c[^zz]", "^x[0]", "a+b+^A"}) Check.refusedAskedAt(hall, text, 3);
        Check.refusedAskedAt(new TurningHall(), "^a", 3);
        // A new plan's NAMES alone count.
        Check.plan(hall, "show n:int=1;");
        Check.refusedAskedAt(hall, "n+^a", 3);
        Check.refusedAskedAt(hall, "^c[0]", 3);
    }

    private static void orderOfSorts() {
        Check.sentence("4 SORTS: by the order in which a formula is worked out (formulas as they stand, that behind = ahead of that behind then; parts ahead of their sign), "
            + "at the sign (of a function its word, of an index its [, of a THING the = or then, of a BELL the when).");
        Halls hall = oneOfEach();
        // Parts from the left, ahead of their sign: not always the first along the text.
        String[] texts = {"(1^+t)+(1+t)", "t+(t^*1)", "1&&(t^+1)", "-(t^+1)+t", "floor(m^[l]+t)", "least(t,t^+1)", "(int)(t^+1)+t", "1?(t^+1):(t+2)", "1?1:(t^+2)", "m[t^+1]",
            "!(1^&&t)", "t+t^*1", "1<(t^<1)", "(1==t^+1)==t", "1^==t", "1||1^&&t"};
        for (String text : texts) Check.refusedAskedAt(hall, text, 4);
        // At the sign.
        for (String text : new String[] {"^floor(t)", "1+^ceil(t)", "^rint(t)", "^abs(t)", "^least(t,1)", "^most (1,t)", "^gcd(1,t)", "m^[l]", "m ^[t]", "^-t", "^!1", "^(int)t", "^(truth)1", "t ^? t : 1"}) {
            Check.refusedAskedAt(hall, text, 4);
        }
        Check.refusedAt("show a:byte ^= 1;", 4);
        Check.refusedAt("part a:byte^=1 then true;", 4);
        Check.refusedAt("part a:int=1 ^then 1l;", 4);
        Check.refusedAt("bell b ^when 1;", 4);
        // Within the formula ahead of what the thing gets.
        Check.refusedAt("show a:byte=1^+true;", 4);
        Check.refusedAt("bell b when 1^+true;", 4);
        // Formulas as they stand.
        Check.refusedAt("part a:int=1 ^then true;part b:int=true then true;", 4);
        Check.refusedAt("bell b ^when 1;show a:int=true;", 4);
        Check.refusedAt("show a:int^=true;bell b when 1;", 4);
        Check.refusedAt("part a:int^=true then 1+true;", 4);
        Check.refusedAt("show z:int=1;part a:int=1 then z^+true;bell b when 1;", 4);
        Check.refusedAt("bell b when x^+1;part x:truth=true then 1;", 4);
    }

    private static void ownSorts() {
        Check.sentence("SORTS of an E: a NUMBER's, a NAME's own; ticks LONG; step DOUBLE; true, false TRUTH;");
        Halls hall = oneOfEach();
        for (int k = 0; k < 8; k++) Check.due(NAMES[k], Check.ask(hall, NAMES[k]), k);
        String[] texts = {"1", "1l", "1f", "1.0", "1p1", "1p1f", "ticks", "step", "true", "false"};
        int[] due = {4, 5, 6, 7, 7, 6, 5, 7, 0, 0};
        for (int k = 0; k < due.length; k++) Check.due(texts[k], Check.ask(hall, texts[k]), due[k]);
    }

    private static void indexes() {
        Check.sentence("cam [ E ] DOUBLE, the index one of BYTE .. INT; old (NAME) the thing's.");
        Halls hall = oneOfEach();
        for (int k = 0; k < 8; k++) {
            boolean fine = k >= 1 && k <= 4;
            TurningHall one = hall.of(8);
            Check.due("an index of " + SORTS[k], Check.ask(one, "m[" + NAMES[k] + "]"), fine ? 7 : -2);
            Check.due("fault()", one.fault(), fine ? 0 : 4);
            Check.due("old(" + NAMES[k] + ")", Check.ask(hall, "old(" + NAMES[k] + ")"), k);
        }
    }

    /** What two parts of a sign or function give: -1 where it is a fault. */
    private static void two(Halls halls, String text, int place, int sort) {
        TurningHall hall = halls.of(Check.calls(text) + 2);
        Check.due(text, Check.ask(hall, text), sort < 0 ? -1 - place : sort);
        Check.due("fault() of " + text, hall.fault(), sort < 0 ? 4 : 0);
    }

    private static int joined(int a, int b) {
        if (a == 0 || b == 0) return -1;
        if (a == 7 || b == 7) return 7;
        if (a == 6 || b == 6) return 6;
        return a == 5 || b == 5 ? 5 : 4;
    }

    private static void joining() {
        Check.sentence("Of two wholes or reals JOINED: DOUBLE, if one is; else FLOAT, if one is; else LONG, if one is; else INT; both become that first. + - * / %: both JOINED, gives that.");
        Halls hall = oneOfEach();
        for (String sign : "+ - * / %".split(" ")) {
            for (int a = 0; a < 8; a++) {
                for (int b = 0; b < 8; b++) two(hall, NAMES[a] + sign + NAMES[b], 1, joined(a, b));
            }
        }
        // They become that first.
        Check.isFloat("16777217-16777216f", 0f);
        Check.isDouble("16777217-16777216.0", 1.0);
        Check.isFloat("9007199254740993l-1p53f", 0f);
        Check.isDouble("9007199254740993l-1p53", 0.0);
        Check.isDouble("0.1f-0.1", (double) 0.1f - 0.1);
        Check.isLong("2147483647+1l", 2147483648L);
        Check.isInt("(byte)127+(byte)127", 254);
    }

    private static void comparing() {
        Check.sentence("< <= > >=: both JOINED, gives TRUTH. == !=: likewise, or two TRUTHS.");
        Halls hall = oneOfEach();
        for (String sign : "< <= > >= == !=".split(" ")) {
            boolean ofTruths = sign.equals("==") || sign.equals("!=");
            for (int a = 0; a < 8; a++) {
                for (int b = 0; b < 8; b++) two(hall, NAMES[a] + sign + NAMES[b], 1, a + b == 0 && ofTruths || joined(a, b) >= 0 ? 0 : -1);
            }
        }
        String[] signs = {"<", "<=", ">", ">=", "==", "!="};
        boolean[] ofSame = {false, true, false, true, true, false};
        boolean[] ofLess = {true, true, false, false, false, true};
        boolean[] ofMore = {false, false, true, true, false, true};
        for (String tail : new String[] {"", "l", "f", ".0"}) {
            for (int k = 0; k < 6; k++) {
                Check.isTruth("1" + tail + signs[k] + "1" + tail, ofSame[k]);
                Check.isTruth("1" + tail + signs[k] + "2" + tail, ofLess[k]);
                Check.isTruth("2" + tail + signs[k] + "1" + tail, ofMore[k]);
            }
        }
        Check.isTruth("true==true", true);
        Check.isTruth("true==false", false);
        Check.isTruth("true!=false", true);
        Check.isTruth("false!=false", false);
        Check.isTruth("-0.0==0.0", true);
        Check.isTruth("-0.0<0.0", false);
        Check.isTruth("-0.0>=0.0", true);
        Check.isTruth("-0f!=0f", false);
        Check.isTruth("16777217==16777216f", true);
        Check.isTruth("16777217<=16777216.0", false);
        Check.isTruth("9007199254740993l>1p53", false);
        Check.isTruth("9223372036854775807l<-9223372036854775807l-1", false);
        Check.isTruth("2147483647>-2147483647-1", true);
    }

    private static void truths() {
        Check.sentence("&& || !: TRUTHS.");
        Halls hall = oneOfEach();
        for (int a = 0; a < 8; a++) {
            for (int b = 0; b < 8; b++) {
                two(hall, NAMES[a] + "&&" + NAMES[b], 1, a + b == 0 ? 0 : -1);
                two(hall, NAMES[a] + "||" + NAMES[b], 1, a + b == 0 ? 0 : -1);
            }
            two(hall, "!" + NAMES[a], 0, a == 0 ? 0 : -1);
        }
        String[] texts = {"true&&true", "true&&false", "false&&true", "false&&false", "true||true", "true||false", "false||true", "false||false", "!true", "!false"};
        for (int k = 0; k < texts.length; k++) Check.isTruth(texts[k], "1000111001".charAt(k) == '1');
    }

    private static void minus() {
        Check.sentence("- ahead: INT of BYTE .. INT, else its own (not TRUTH).");
        Halls hall = oneOfEach();
        int[] due = {-1, 4, 4, 4, 4, 5, 6, 7};
        for (int a = 0; a < 8; a++) two(hall, "-" + NAMES[a], 0, due[a]);
        Check.isInt("-(byte)-128", 128);
        Check.isInt("-(short)-32768", 32768);
        Check.isInt("-(char)-1", -65535);
        Check.isInt("-(-2147483647-1)", Integer.MIN_VALUE);
        Check.isLong("-(-9223372036854775807l-1)", Long.MIN_VALUE);
    }

    private static void casts() {
        Check.sentence("A cast: any but TRUTH to any but TRUTH (TRUTH to TRUTH, too): it becomes that.");
        Halls hall = oneOfEach();
        for (int a = 0; a < 8; a++) {
            for (int to = 0; to < 8; to++) two(hall, "(" + SORTS[to] + ")" + NAMES[a], 0, (a == 0) == (to == 0) ? to : -1);
        }
        Check.is("(truth)(1<2)", 0, 1);
        Check.is("(truth)false", 0, 0);
    }

    private static void functions() {
        Check.sentence("floor, ceil, rint, abs: a real or whole, that becomes a DOUBLE, gives that.");
        Halls hall = oneOfEach();
        for (String word : new String[] {"floor", "ceil", "rint", "abs"}) {
            for (int a = 0; a < 8; a++) two(hall, word + "(" + NAMES[a] + ")", 0, a == 0 ? -1 : 7);
            Check.isDouble(word + "(3)", 3);
            Check.isDouble(word + "(3f)", 3);
            Check.isDouble(word + "(9223372036854775807l)", 9223372036854775808.0);
        }
        Check.isDouble("abs(-2147483647-1)", 2147483648.0);
        Check.isDouble("abs(-9223372036854775807l-1)", 9223372036854775808.0);
        Check.isDouble("abs(-0.1f)", (double) 0.1f);
    }

    private static void leasts() {
        Check.sentence("least, most: both JOINED. gcd: both become DOUBLEs.");
        Halls hall = oneOfEach();
        for (int a = 0; a < 8; a++) {
            for (int b = 0; b < 8; b++) {
                String parts = "(" + NAMES[a] + "," + NAMES[b] + ")";
                two(hall, "least" + parts, 0, joined(a, b));
                two(hall, "most" + parts, 0, joined(a, b));
                two(hall, "gcd" + parts, 0, a == 0 || b == 0 ? -1 : 7);
            }
        }
        Check.isFloat("least(16777217,1p30f)", 16777216f);
        Check.isLong("most(1,2l)", 2);
        Check.isInt("least((byte)1,(char)2)", 1);
        Check.isDouble("gcd(9007199254740993l,0)", 9007199254740992.0);
        Check.isDouble("gcd(0.1f,0f)", (double) 0.1f);
        Check.isDouble("gcd(4,6)", 2);
    }

    private static void choices() {
        Check.sentence("? : a TRUTH, then two TRUTHS, or two that are JOINED.");
        Halls hall = oneOfEach();
        for (int a = 0; a < 8; a++) {
            two(hall, NAMES[a] + "?1:1", 1, a == 0 ? 4 : -1);
            for (int b = 0; b < 8; b++) {
                two(hall, "t?" + NAMES[a] + ":" + NAMES[b], 1, a == 0 && b == 0 ? 0 : joined(a, b));
                two(hall, "!t?" + NAMES[a] + ":" + NAMES[b], 2, a == 0 && b == 0 ? 0 : joined(a, b));
            }
        }
        Check.isDouble("true?1:2.0", 1);
        Check.isDouble("false?1.0:2", 2);
        Check.isDouble("false?1:2.5", 2.5);
        Check.isDouble("false?1.5:2.5", 2.5);
        Check.isFloat("false?1:2.5f", 2.5f);
        Check.isDouble("true?1.5:2", 1.5);
        Check.isFloat("false?1f:2.5f", 2.5f);
        Check.isFloat("false?1l:-2.5f", -2.5f);
        Check.isLong("false?1:-2l", -2);
        Check.isInt("false?(char)1:(byte)-2", -2);
        Check.isTruth("false?true:1<2", true);
        Check.isFloat("true?16777217:1f", 16777216f);
        Check.isFloat("false?1f:16777217", 16777216f);
        Check.isLong("true?-1:1l", -1);
        Check.isInt("true?(byte)-1:(char)1", -1);
        Check.isDouble("true?0.1f:1.0", (double) 0.1f);
    }

    private static void whatAThingGets() {
        Check.sentence("What a THING gets: TRUTH for TRUTH; its own sort, or one that comes to it: BYTE to SHORT; BYTE, SHORT, CHAR to INT; all wholes to those of more bits with sign, "
            + "wholes to reals, FLOAT to DOUBLE; it becomes that (never jams).");
        String[] takes = {"t", "b", "bs", "c", "bsci", "bscil", "bscilf", "bscilfd"};
        for (int to = 0; to < 8; to++) {
            for (int from = 0; from < 8; from++) {
                boolean fine = takes[to].contains(NAMES[from]);
                String show = ONE_OF_EACH + "show x:" + SORTS[to];
                String part = ONE_OF_EACH + "part x:" + SORTS[to] + "=(" + SORTS[to] + ")" + (to == 0 ? "t" : "1") + " ";
                TurningHall one = new TurningHall();
                Check.due(SORTS[to] + "=" + NAMES[from], Check.plan(one, show + "=" + NAMES[from] + ";"), fine ? 9 : -1 - show.length());
                Check.due("kind", one.fault(), fine ? 0 : 4);
                Check.due(SORTS[to] + " then " + NAMES[from], Check.plan(one, part + "then " + NAMES[from] + ";"), fine ? 9 : -1 - part.length());
                Check.due("kind", one.fault(), fine ? 0 : 4);
            }
        }
        TurningHall hall = Check.hall("part f:float=9223372036854775807l then 16777217;part d:double=9223372036854775807l then 0.1f;part l:long=(char)-1 then (byte)-1;"
            + "part i:int=(char)-1 then (short)-1;part s:short=(byte)-128 then (byte)127;");
        long[] first = {Check.bits(9223372036854775808f), Check.bits(9223372036854775808.0), 65535, 65535, -128};
        long[] then = {Check.bits(16777216f), Check.bits((double) 0.1f), -1, -1, 127};
        for (int k = 0; k < 5; k++) Check.due("thing " + k, hall.value(k, 0), first[k]);
        hall.tick(1);
        for (int k = 0; k < 5; k++) Check.due("thing " + k + " then", hall.value(k, 0), then[k]);
        for (int k = 0; k < 5; k++) Check.due("JAMS of thing " + k, hall.thing(k, 3), 0);
    }

    private static void whatABellGets() {
        Check.sentence("A BELL's is a TRUTH.");
        for (int from = 0; from < 8; from++) {
            String bell = ONE_OF_EACH + "bell x ";
            TurningHall one = new TurningHall();
            Check.due("when " + NAMES[from], Check.plan(one, bell + "when " + NAMES[from] + ";"), from == 0 ? 8 : -1 - bell.length());
            Check.due("kind", one.fault(), from == 0 ? 0 : 4);
        }
    }

    public static void run() {
        leastKind();
        firstToken();
        noToken();
        eleventhByte();
        numberNotAsTold();
        nesting();
        reach();
        tooManyNames();
        tooManyNumbers();
        tooManyNodes();
        whatIsANode();
        toldTwice();
        nameAhead();
        nameAnywhere();
        orderOfSorts();
        ownSorts();
        indexes();
        joining();
        comparing();
        truths();
        minus();
        casts();
        functions();
        leasts();
        choices();
        whatAThingGets();
        whatABellGets();
    }

    public static void main(String[] args) {
        run();
        Check.close("EdgesOfFaultsTest");
    }
}
