/** Each sentence of "Terms", part 2, about the TAPE, TOKENS, NUMBERs, the PLAN and the E, at its bounds. */
public final class EdgesOfTokensTest {
    private static final String WORDS = "part show cam bell then when old step ticks floor ceil rint abs least most gcd true false truth byte short char int long float double";
    private static final String SORTS = "truth byte short char int long float double";
    private static final String SIGNS = ": ; , = ? ( ) [ ] + - * / % ! < <= > >= == != && ||";
    /** All tokens that there are; of NUMBERs and NAMES one each. */
    private static final String[] TOKENS = (WORDS + " " + SIGNS + " 7 zz").split(" ");
    private static final String STARTS = "7 zz true false ticks step old floor ceil rint abs least most gcd ( - ! ";
    private static final String OTHERS = "|| && + - * / % ? ";
    private static final String SAMES = "== != ";
    private static final String LESSES = "< <= > >= ";
    private static final String GOES_ON = OTHERS + SAMES + LESSES;

    private static String spaces(int many) {
        return " ".repeat(many);
    }

    private static void tape() {
        Check.sentence("The TAPE has bytes, at most 3000.");
        TurningHall hall = new TurningHall();
        String show = "show a:int=1;";
        Check.due("a plan that ends with byte 3000", Check.plan(hall, spaces(3000 - show.length()) + show), 1);
        Check.due("a fault at byte 3000", Check.plan(hall, spaces(2999) + "x"), -3000);
        Check.due("more must come behind byte 3000", Check.plan(hall, spaces(2996) + "part"), -3001);
        hall = new TurningHall();
        Check.due("a formula that ends with byte 3000", Check.ask(hall, spaces(2996) + "1234"), 4);
        Check.due("told", hall.told(), 1234);
        hall = new TurningHall();
        Check.tape(hall, spaces(3000));
        Check.due("one more", hall.feed(0x20202020, 0x20202020, 0x20202020, 0x20202020, 0x20202020), -1);
        Check.due("count(4)", hall.count(4), 3000);
        Check.due("blanks alone", hall.ask(), -3001);
    }

    private static void longest() {
        Check.sentence("TOKENS, each as long as it can be;");
        Check.isTruth("1<=1", true);
        Check.isTruth("1>=2", false);
        Check.isTruth("1==1", true);
        Check.isTruth("1!=1", false);
        Check.isTruth("1<-1", false);
        Check.isTruth("true&&true||false", true);
        Check.isTruth("!!true", true);
        TurningHall hall = new TurningHall();
        for (String text : new String[] {"1< ^=1", "1> ^=1", "1 ^= =1", "1 ^! =1", "1<= ^=1", "1== ^=1", "1!= ^=1", "1 ^=>1", "true^& &true", "true^| |true", "true|| ^|true", "1 ^1"}) {
            Check.refusedAskedAt(hall, text, 1);
        }
        // Letters and digits side by side are one NAME, a WORD with more behind it is none.
        Check.refusedAskedAt(hall, "^ticks12", 3);
        Check.refusedAskedAt(hall, "^truetrue", 3);
        Check.refusedAskedAt(hall, "^t1", 3);
        Check.due("part1 is no part", Check.plan(hall, "part1 a:int=1 then 1;"), -1);
        Check.due("partpart is a NAME", Check.plan(hall, "part partpart:int=1then 1;"), -1 - 18);
        Check.due("12 is one NUMBER", Check.ask(hall, "12"), 4);
        Check.due("told", hall.told(), 12);
    }

    private static void blanks() {
        Check.sentence("between them BLANKS (9, 10, 32):");
        Halls halls = new Halls();
        for (int c = 0; c < 256; c++) {
            TurningHall hall = halls.of(8);
            boolean blank = c == 9 || c == 10 || c == 32;
            Check.due("1, byte " + c + ", +1", Check.ask(hall, "1" + (char) c + "+1"), blank ? 4 : dueBetween(c));
            Check.due("byte " + c + " ahead of all", Check.plan(hall, (char) c + "show a:int=1;") == 1, blank);
        }
        TurningHall hall = new TurningHall();
        Check.due("many of them", Check.plan(hall, "\t\n \n\tshow\n\na\t:\t int\n=\t1\n;\t "), 1);
        Check.due("none where none must be", Check.plan(hall, "show a:int=1;show b:int=a;"), 2);
    }

    /** What "1" + c + "+1" is due to answer for a byte that is no blank. */
    private static int dueBetween(int c) {
        if (c >= '0' && c <= '9') return 4;
        if (c == 'l') return 5;
        if (c == 'f') return 6;
        if (c >= 'a' && c <= 'z' || c >= 'A' && c <= 'Z' || c == '.') return -1;
        // A sign of two parts and ? go on, but the + behind begins no part.
        return "+-*/%<>?".indexOf(c) >= 0 ? -3 : -2;
    }

    private static void names() {
        Check.sentence("NAMES: a letter a .. z, A .. Z, then letters and digits, 10 at most, that are no WORDS;");
        Halls halls = new Halls();
        for (int c = 0; c < 256; c++) {
            TurningHall hall = halls.of(8);
            boolean letter = c >= 'a' && c <= 'z' || c >= 'A' && c <= 'Z';
            boolean digit = c >= '0' && c <= '9';
            Check.due("byte " + c + " as a NAME", Check.plan(hall, "show " + (char) c + ":int=1;") == 1, letter);
            Check.due("byte " + c + " within one", Check.plan(hall, "show a" + (char) c + "b:int=1;") == 1, letter || digit);
        }
        TurningHall hall = new TurningHall();
        Check.due("10 bytes", Check.plan(hall, "show abcdefghij:int=1;show a123456789:int=abcdefghij;"), 2);
        Check.due("its length", hall.thing(0, 2), 10);
        Check.due("its last letter", hall.letter(1, 9), '9');
        Check.due("11 bytes", Check.plan(hall, "show abcdefghijk:int=1;"), -1 - 15);
        Check.due("1 byte", Check.plan(hall, "show Z:int=1;"), 1);
        // All that there may be, each with 10 bytes, and each found by them.
        StringBuilder text = new StringBuilder();
        for (int k = 10; k < 50; k++) text.append("part thing678").append(k).append(":int=").append(k).append(" then 0;");
        for (int k = 10; k < 18; k++) text.append("cam camxx678").append(k).append("=").append(k).append(';');
        for (int k = 10; k < 22; k++) text.append("bell bell5678").append(k).append(" when true;");
        Check.due("all that there may be", Check.plan(hall, text.toString()), 40);
        for (int k = 10; k < 50; k++) Check.gives(hall, "thing678" + k, 4, k);
        for (int k = 10; k < 18; k++) Check.gives(hall, "camxx678" + k + "[0]", 7, Check.bits((double) k));
        for (int k = 10; k < 22; k++) Check.due("bell " + k, hall.letter(90 + k, 9), '0' + k % 10);
        Check.refusedAskedAt(hall, "^thing67850", 3);
        Check.refusedAskedAt(hall, "^camxx67818[0]", 3);
        Check.due("A is not a", Check.plan(hall, "show A:int=1;show a:int=2;"), 2);
    }

    private static void words() {
        Check.sentence("WORDS: part show cam bell then when old step ticks floor ceil rint abs least most gcd true false truth byte short char int long float double;");
        for (String word : WORDS.split(" ")) {
            TurningHall hall = new TurningHall();
            Check.due(word + " is no NAME", Check.plan(hall, "show " + word + ":int=1;"), -6);
            Check.due("fault()", hall.fault(), 1);
            String large = word.substring(0, 1).toUpperCase() + word.substring(1);
            String less = word.substring(0, word.length() - 1);
            for (String near : new String[] {large, word + "s", word + "0", less, word.toUpperCase()}) {
                Check.due(near + " is a NAME", Check.plan(hall, "show " + near + ":int=1;"), 1);
            }
        }
    }

    private static void signs() {
        Check.sentence("NUMBERS; the signs : ; , = ? ( ) [ ] + - * / % ! < <= > >= == != && || .");
        TurningHall hall = new TurningHall();
        // A ; goes on nowhere in an E, so what stands ahead of it is read as told, or refused itself.
        for (String sign : "+ - * / % < <= > >= == !=".split(" ")) Check.due(sign, Check.ask(hall, "1" + sign + "1") >= 0, true);
        for (String sign : "&& ||".split(" ")) Check.due(sign, Check.ask(hall, "true" + sign + "true"), 0);
        Check.isInt("true?(1):-2", 1);
        Check.isTruth("!true", false);
        Check.isInt("(int)most(1,2)", 2);
        Check.due("[ ] , ; = :", Check.plan(hall, "cam c=1,2;show a:double=c[1];"), 1);
        for (String sign : "& | && & || ^ ~ # @ $ \\ \" ' ` { } _ .".split(" ")) Check.due(sign + " is none ahead", Check.ask(hall, sign), -1);
        for (String sign : "& | ^ ~ # @ $ \\ \" ' ` { } _ .".split(" ")) Check.due(sign + " is none behind", Check.ask(hall, "1 " + sign + " 1"), -3);
    }

    private static void refusedNumber(String number) {
        TurningHall hall = new TurningHall();
        Check.refusedAskedAt(hall, "1 + ^" + number, 1);
        Check.refusedAt("cam c = 1, -^" + number + ";", 1);
    }

    private static void numbers() {
        Check.sentence("A NUMBER: digits, perhaps . and digits, perhaps p and digits or p- and digits, perhaps l or f.");
        Check.isInt("0", 0);
        Check.isDouble("0.0", 0);
        Check.isDouble("1.25", 1.25);
        Check.isDouble("1p3", 8);
        Check.isDouble("1p-3", 0.125);
        Check.isDouble("1.5p3", 12);
        Check.isDouble("1.5p-3", 0.1875);
        Check.isFloat("1.5p3f", 12f);
        Check.isFloat("1p-3f", 0.125f);
        Check.isFloat("0.5f", 0.5f);
        Check.isFloat("3f", 3f);
        Check.isLong("3l", 3);
        for (String bad : new String[] {"1.", "1.p3", "1.f", "1p", "1p-", "1p+3", "1p--3", "1p3.5", "1p.5", "1p3p3", "1P3", "1L", "1F", "1D", "1d", "1e3", "0x1", "1lf", "1fl", "1ll", "1ff"}) {
            refusedNumber(bad);
        }
        // What begins without a digit is none.
        Check.refusedAskedAt(new TurningHall(), "^.5", 1);
        Check.refusedAskedAt(new TurningHall(), "^p3", 3);
    }

    private static void greatestInt() {
        Check.sentence("Without ., p, l, f it is an INT (2147483647 at most);");
        Check.isInt("2147483647", 2147483647);
        Check.isInt("0002147483647", 2147483647);
        Check.isInt("00000000000000000000000000000000000000000000000007", 7);
        Check.isInt("-2147483647-1", Integer.MIN_VALUE);
        for (String bad : new String[] {"2147483648", "02147483648", "4294967296", "4294967297", "9223372036854775807", "9223372036854775808", "18446744073709551617", "9".repeat(40)}) {
            refusedNumber(bad);
        }
    }

    private static void greatestLong() {
        Check.sentence("with l a LONG (9223372036854775807 at most; with . or p besides it is no token);");
        Check.isLong("9223372036854775807l", Long.MAX_VALUE);
        Check.isLong("2147483648l", 2147483648L);
        Check.isLong("000000000000000000000000000009223372036854775807l", Long.MAX_VALUE);
        Check.isLong("0l", 0);
        for (String bad : new String[] {"9223372036854775808l", "9223372036854775810l", "9223372036854775817l", "18446744073709551616l", "18446744073709551617l",
            "1" + "0".repeat(30) + "l", "1.0l", "1p1l", "1p-1l", "1.5p1l", "0.0l", "0p0l"}) refusedNumber(bad);
    }

    private static void digitsOfReals() {
        Check.sentence("otherwise a real: all its digits (of both sides of the point, 0s ahead, too, 15 at most) as a whole, DIVIDED (as a DOUBLE) by 10 to the number of those behind the point,");
        Check.isDouble("123456789012345p0", 123456789012345.0);
        Check.isDouble("12345678901234.5", 12345678901234.5);
        Check.isDouble("1.23456789012345", 123456789012345.0 / 1e14);
        Check.isDouble("0.00000000000001", 1 / 1e14);
        Check.isDouble("000000000000001p0", 1);
        Check.isDouble("000000000000.001", 0.001);
        Check.isFloat("000000000000001f", 1f);
        Check.isFloat("999999999999999f", 999999999999999f);
        Check.isDouble("0.1", 1 / 10.0);
        Check.isDouble("0.3", 3 / 10.0);
        Check.isDouble("2.50", 2.5);
        for (String bad : new String[] {"1234567890123456p0", "123456789012345.6", "1.234567890123456", "0.000000000000001", "0000000000000001p0", "0000000000000.001",
            "0000000000000001f", "1000000000000000f", "0.000000000000000", "0000000000000000p0", "1" + "0".repeat(40) + ".5"}) refusedNumber(bad);
    }

    private static void timesTwo() {
        Check.sentence("then TIMES 2 to the p (1100 at most, either way), rounded once each;");
        Check.isDouble("1p0", 1);
        Check.isDouble("1p-0", 1);
        Check.isDouble("1p1023", Math.scalb(1.0, 1023));
        Check.isDouble("1p000000000000000000001", 2);
        Check.isDouble("0p1100", 0);
        Check.isDouble("0.0p-1100", 0);
        Check.isDouble("0.00000000000001p1070", Math.scalb(1 / 1e14, 1070));
        Check.isDouble("1p-1100", 0);
        Check.isDouble("999999999999999p-1100", Math.scalb(999999999999999.0, -1100));
        Check.isDouble("67108864p-1100", Double.MIN_VALUE);
        for (String bad : new String[] {"0p1101", "0p-1101", "1p-1101", "0p11000", "0p4294967297", "0p18446744073709551617", "0p-99999999999999999999"}) refusedNumber(bad);
        // Of two the even one, among the least, too, and rounded in one step there.
        Check.is("1p-1074", 7, 1);
        Check.is("1p-1075", 7, 0);
        Check.is("3p-1075", 7, 2);
        Check.is("5p-1075", 7, 2);
        Check.is("1.0000001p-1075", 7, 1);
        Check.is("9007199254.741p-1075", 7, Check.bits(Math.scalb(9007199254741.0 / 1000, -1075)));
        // 0.3 is divided (rounded), then made small (rounded again).
        Check.is("0.3p-1073", 7, 1);
        Check.isDouble("0.1p-1040", Math.scalb(0.1, -1040));
    }

    private static void floats() {
        Check.sentence("with f that becomes a FLOAT;");
        Check.isFloat("0.1f", 0.1f);
        Check.isFloat("16777217f", 16777216f);
        Check.isFloat("16777219f", 16777220f);
        // By way of the DOUBLE: rounded once they would be the FLOAT beside.
        Check.isFloat("7.92275595664978f", (float) 7.92275595664978);
        Check.due("that is another", Check.bits((float) 7.92275595664978) != Check.bits(7.92275595664978f), true);
        Check.isFloat("2.81205952167511f", (float) 2.81205952167511);
        Check.due("that is another", Check.bits((float) 2.81205952167511) != Check.bits(2.81205952167511f), true);
        Check.isFloat("1p-149f", Float.MIN_VALUE);
        Check.isFloat("1p-150f", 0f);
        Check.isFloat("1.5p-150f", Float.MIN_VALUE);
        Check.isFloat("1p-1100f", 0f);
    }

    private static void finiteNumbers() {
        Check.sentence("it must be finite.");
        Check.isDouble("999999999999999p974", Math.scalb(999999999999999.0, 974));
        Check.isDouble("562949953421311p974", Math.scalb(562949953421311.0, 974));
        for (String bad : new String[] {"1p1024", "562949953421312p975", "999999999999999p975", "1p1100", "0.5p1025", "1p1100f"}) refusedNumber(bad);
        Check.isFloat("16777215p104f", Float.MAX_VALUE);
        Check.isFloat("1p127f", Math.scalb(1f, 127));
        Check.isFloat("33554430.9p103f", Float.MAX_VALUE);
        for (String bad : new String[] {"1p128f", "33554431p103f", "16777216p104f", "1p1023f"}) refusedNumber(bad);
    }

    private static void rightBehind() {
        Check.sentence("(What stands right behind, digits, letters, a point, belongs to it; if the whole is not as told, it is no token.)");
        for (String bad : new String[] {"1x", "1then", "1when", "1part", "1a", "1Z", "1.5x", "1.5.5", "1..5", "1p1p", "1p1x", "1p1.", "1l1", "1lx", "1l.", "1f0", "1fx", "1f.5", "1.5f2", "12abcdefghijkl"}) {
            refusedNumber(bad);
        }
        Check.refusedAt("part a:int=^1then 1;", 1);
        Check.refusedAt("show a:int=^1.;", 1);
        // Other signs do not belong to it.
        Check.isInt("1-1", 0);
        Check.isDouble("1p-1-1", -0.5);
        Check.isInt("1+1", 2);
        Check.isTruth("1<2", true);
        Check.isLong("1l-1l", 0);
        Check.refusedAskedAt(new TurningHall(), "1 ^(1)", 1);
        Check.refusedAskedAt(new TurningHall(), "1^_", 1);
        Check.refusedAskedAt(new TurningHall(), "1^\u00e9", 1);
    }

    /** Behind the beginning of a plan just these tokens go on; any other is the fault. */
    private static void plan(String ahead, String goOn) {
        String all = " " + goOn + " ";
        for (String token : TOKENS) {
            String text = ahead + " " + token;
            TurningHall hall = new TurningHall();
            int answer = Check.plan(hall, text);
            boolean refused = hall.fault() == 1 && answer == -1 - (ahead.length() + 1);
            Check.due("'" + token + "' goes on behind '" + ahead + "'", !refused, all.contains(" " + token + " "));
        }
    }

    /** The same of an E that is asked. */
    private static void asked(String ahead, String goOn) {
        String all = " " + goOn + " ";
        TurningHall hall = Check.hall("part a:int=1 then 1;cam c=1;");
        for (String token : TOKENS) {
            String text = ahead + " " + token;
            int answer = Check.ask(hall, text);
            boolean refused = hall.fault() == 1 && answer == -1 - (ahead.length() + 1);
            Check.due("'" + token + "' goes on behind '" + ahead + "'", !refused, all.contains(" " + token + " "));
        }
    }

    private static void plans() {
        Check.sentence("PLAN: { THING | CAM | BELL }.");
        plan("", "part show cam bell");
        Check.accepted("", 0);
        Check.accepted(" \n", 0);
        Check.accepted("bell b when true;cam c=1;show a:int=1;part d:int=1 then 1;cam e=2;bell f when false;", 2);
        plan("show a:int=1;", "part show cam bell");
        plan("cam a=1;", "part show cam bell");
        plan("bell a when true;", "part show cam bell");
        plan("part a:int=1 then 1;", "part show cam bell");
    }

    private static void things() {
        Check.sentence("THING: 'part' NAME ':' SORT '=' E 'then' E ';' | 'show' NAME ':' SORT '=' E ';'.");
        for (String kind : new String[] {"part", "show"}) {
            plan(kind, "zz");
            plan(kind + " a", ":");
            plan(kind + " a:", SORTS);
            plan(kind + " a:int", "=");
            plan(kind + " a:int=", STARTS);
        }
        plan("part a:int=1", GOES_ON + "then");
        plan("part a:int=1 then", STARTS);
        plan("part a:int=1 then 1", GOES_ON + ";");
        plan("show a:int=1", GOES_ON + ";");
        plan("show a:int=true?1:1", GOES_ON + ";");
        plan("part a:int=true?1:1", GOES_ON + "then");
    }

    private static void cams() {
        Check.sentence("CAM: 'cam' NAME '=' [ '-' ] NUMBER { ',' [ '-' ] NUMBER } ';'");
        plan("cam", "zz");
        plan("cam c", "=");
        plan("cam c=", "- 7");
        plan("cam c=-", "7");
        plan("cam c=1", ", ;");
        plan("cam c=-1", ", ;");
        plan("cam c=1,", "- 7");
        plan("cam c=1,-", "7");
        Check.accepted("cam c=- 1 , 2,-3;", 0);
    }

    private static void teeth() {
        Check.sentence("(each becomes a DOUBLE; with - its sign is turned round then, of 0, too).");
        TurningHall hall = Check.hall("cam c=0,-0,-0.0,-0f,-0l,9007199254740993l,-9223372036854775807l,0.1f,-0.1f,2147483647,-1p1023,-1p-1074;");
        double[] due = {0.0, -0.0, -0.0, -0.0, -0.0, 9007199254740992.0, -9223372036854775808.0, 0.1f, -0.1f, 2147483647.0, -Math.scalb(1.0, 1023), -Double.MIN_VALUE};
        for (int k = 0; k < due.length; k++) Check.gives(hall, "c[" + k + "]", 7, Check.bits(due[k]));
    }

    private static void bells() {
        Check.sentence("BELL: 'bell' NAME 'when' E ';'.");
        plan("bell", "zz");
        plan("bell b", "when");
        plan("bell b when", STARTS);
        plan("bell b when true", GOES_ON + ";");
    }

    private static void sorts() {
        Check.sentence("SORT: truth, byte, short, char, int, long, float, double.");
        String[] sorts = SORTS.split(" ");
        for (int k = 0; k < 8; k++) {
            TurningHall hall = Check.hall("show a:" + sorts[k] + "=(" + sorts[k] + ")" + (k == 0 ? "true" : "1") + ";");
            Check.due(sorts[k], hall.thing(0, 0), k);
            Check.due("a cast to " + sorts[k], Check.ask(hall, "(" + sorts[k] + ")a"), k);
        }
        plan("show a:", SORTS);
        asked("(", STARTS + SORTS);
    }

    private static void choices() {
        Check.sentence("E: O [ '?' E ':' E ].");
        asked("true?", STARTS);
        asked("true?1", GOES_ON + ":");
        asked("true?1:", STARTS);
        asked("true?1:1", GOES_ON);
        asked("true?true?1:1", GOES_ON + ":");
        asked("true?true?1:1:1", GOES_ON);
        asked("(true?1:1", GOES_ON + ")");
        asked("true?1==1", OTHERS + LESSES + ":");
        asked("true?1:1==1", OTHERS + LESSES);
        Check.isInt("false?1:true?2:3", 2);
        Check.isInt("false?1:false?2:3", 3);
        Check.isInt("true?false?1:2:3", 2);
        Check.isInt("true?1:2+5", 1);
        Check.isInt("false?1:2+5", 7);
        Check.isInt("true||false?1:2", 1);
    }

    private static void ors() {
        Check.sentence("O: A { '||' A }.");
        asked("true||", STARTS);
        asked("true||true", GOES_ON);
        Check.isTruth("true||false&&false", true);
        Check.isTruth("false&&false||true", true);
        Check.isTruth("false||false||true", true);
        Check.isTruth("false||1==1", true);
    }

    private static void ands() {
        Check.sentence("A: Q { '&&' Q }.");
        asked("true&&", STARTS);
        asked("true&&true", GOES_ON);
        Check.isTruth("true&&true&&false", false);
        Check.isTruth("false&&true==false", false);
        Check.isTruth("true&&1!=2", true);
    }

    private static void sames() {
        Check.sentence("Q: R [ '==' R | '!=' R ].");
        for (String sign : new String[] {"==", "!="}) {
            asked("1" + sign, STARTS);
            asked("1" + sign + "1", OTHERS + LESSES);
            asked("1<1" + sign + "1", OTHERS + LESSES);
            asked("1<1" + sign + "1<1", OTHERS);
            asked("(1" + sign + "1)", GOES_ON);
            asked("true&&1" + sign + "1", OTHERS + LESSES);
            asked("1" + sign + "1&&1", GOES_ON);
            asked("1" + sign + "1?1", GOES_ON + ":");
        }
        Check.isTruth("1<2==2<3", true);
        Check.isTruth("1<2!=2>3", true);
        Check.isTruth("1+1==2", true);
    }

    private static void lesses() {
        Check.sentence("R: S [ '<' S | '<=' S | '>' S | '>=' S ].");
        for (String sign : LESSES.split(" ")) {
            asked("1" + sign, STARTS);
            asked("1" + sign + "1", OTHERS + SAMES);
            asked("1+1" + sign + "1+1", OTHERS + SAMES);
            asked("(1" + sign + "1)", GOES_ON);
            asked("1" + sign + "1||1", GOES_ON);
        }
        Check.isTruth("1+1<3-0", true);
        Check.isTruth("2*2>=1+3", true);
    }

    private static void sums() {
        Check.sentence("S: T { '+' T | '-' T }.");
        asked("1+", STARTS);
        asked("1-", STARTS);
        asked("1+1", GOES_ON);
        asked("1-1", GOES_ON);
        Check.isInt("10-4-3", 3);
        Check.isInt("10-4+3", 9);
        Check.isInt("10-2*3", 4);
        Check.isInt("2*3-10", -4);
    }

    private static void products() {
        Check.sentence("T: U { '*' U | '/' U | '%' U }.");
        for (String sign : new String[] {"*", "/", "%"}) {
            asked("1" + sign, STARTS);
            asked("1" + sign + "1", GOES_ON);
        }
        Check.isInt("100/10/5", 2);
        Check.isInt("100/10*5", 50);
        Check.isInt("100%30%7", 3);
        Check.isInt("7*3%4", 1);
        Check.isInt("7%4*3", 9);
        Check.isInt("2*-3", -6);
    }

    private static void ahead() {
        Check.sentence("U: '-' U | '!' U | '(' SORT ')' U | P.");
        asked("-", STARTS);
        asked("!", STARTS);
        asked("--", STARTS);
        asked("-1", GOES_ON);
        asked("!true", GOES_ON);
        asked("(int", ")");
        asked("(int)", STARTS);
        asked("(int)1", GOES_ON);
        Check.isInt("- -1", 1);
        Check.isInt("--1", 1);
        Check.isTruth("!!false", false);
        Check.isInt("-1+2", 1);
        Check.isInt("(int)2.5*2", 4);
        Check.isDouble("(int)2.5*2.0", 4.0);
        Check.isInt("-(int)2.5", -2);
        Check.isInt("(int)-2.5", -2);
        Check.isTruth("!false==true", true);
        Check.isInt("-7%4", -3);
        Check.isInt("(int)(byte)300", 44);
    }

    private static void parts() {
        Check.sentence("P: NUMBER | 'true' | 'false' | 'ticks' | 'step' | NAME | NAME '[' E ']' | 'old' '(' NAME ')' | 'floor' '(' E ')', so ceil, rint, abs "
            + "| 'least' '(' E ',' E ')', so most, gcd | '(' E ')'.");
        asked("", STARTS);
        for (String leaf : new String[] {"1", "true", "false", "ticks", "step", "old(a)", "c[0]", "(1)", "floor(1)", "gcd(1,1)"}) asked(leaf, GOES_ON);
        asked("a", GOES_ON + "[");
        asked("c[", STARTS);
        asked("c[0", GOES_ON + "]");
        asked("c[true?1:1", GOES_ON + "]");
        asked("old", "(");
        asked("old(", "zz");
        asked("old(a", ")");
        for (String word : new String[] {"floor", "ceil", "rint", "abs"}) {
            asked(word, "(");
            asked(word + "(", STARTS);
            asked(word + "(1", GOES_ON + ")");
            asked(word + "(true?1:1", GOES_ON + ")");
        }
        for (String word : new String[] {"least", "most", "gcd"}) {
            asked(word, "(");
            asked(word + "(", STARTS);
            asked(word + "(1", GOES_ON + ",");
            asked(word + "(true?1:1", GOES_ON + ",");
            asked(word + "(1,", STARTS);
            asked(word + "(1,1", GOES_ON + ")");
            asked(word + "(1,true?1:1", GOES_ON + ")");
        }
        asked("(1", GOES_ON + ")");
    }

    public static void run() {
        tape();
        longest();
        blanks();
        names();
        words();
        signs();
        numbers();
        greatestInt();
        greatestLong();
        digitsOfReals();
        timesTwo();
        floats();
        finiteNumbers();
        rightBehind();
        plans();
        things();
        cams();
        teeth();
        bells();
        sorts();
        choices();
        ors();
        ands();
        sames();
        lesses();
        sums();
        products();
        ahead();
        parts();
    }

    public static void main(String[] args) {
        run();
        Check.close("EdgesOfTokensTest");
    }
}
