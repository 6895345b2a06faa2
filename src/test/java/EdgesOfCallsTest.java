/** Each sentence of promises 1 to 16 (a new object, texts, ticks), at its bounds. */
public final class EdgesOfCallsTest {
    private static final int BLANKS = 0x20202020;

    private static int feedBlanks(TurningHall hall) {
        return hall.feed(BLANKS, BLANKS, BLANKS, BLANKS, BLANKS);
    }

    private static void manyCalls() {
        Check.sentence("An object is used for at most 512 calls after it has been made; what later calls answer is free.");
        TurningHall hall = new TurningHall();
        for (int k = 1; k <= 512; k++) Check.due("call " + k, hall.tick(k % 2 == 0 ? 1 : 0), k / 2);
        // The dearest calls, again and again: the answer of the last is as due as that of the first.
        TurningHall dear = new TurningHall();
        int[] five = Check.numbers("bell b when true;part a:int=1/0 then a+1;");
        for (int k = 0; k < five.length; k += 5) dear.feed(five[k], five[k + 1], five[k + 2], five[k + 3], five[k + 4]);
        Check.due("plan()", dear.plan(), 1);
        for (int k = 1; k <= 508; k++) Check.due("tick(500)", dear.tick(500), 500L * k);
        // What later calls answer is free, but none may throw (LANGUAGE.md, rule 7).
        for (int k = 0; k < 100; k++) {
            dear.tick(500);
            dear.keep(k % 4);
            dear.back(k % 4);
            dear.plan();
            dear.ask();
            feedBlanks(dear);
        }
    }

    private static void newObject() {
        Check.sentence("`TurningHall()`: An empty tape and plan, STEP 1.0, nothing kept, no TEXT.");
        TurningHall hall = new TurningHall();
        for (int what = 0; what <= 7; what++) Check.due("count(" + what + ")", hall.count(what), 0);
        for (int place = 0; place < 4; place++) Check.due("back(" + place + ")", hall.back(place), false);
        Check.due("octet(0)", hall.octet(0), -1);
        Check.due("end(1)", hall.end(1), -1);
        Check.due("end(0)", hall.end(0), 0);
        Check.due("thing(0, 0)", hall.thing(0, 0), -1);
        Check.due("thing(100, 6)", hall.thing(100, 6), -1);
        Check.due("letter(0, 0)", hall.letter(0, 0), -1);
        Check.due("letter(100, 0)", hall.letter(100, 0), -1);
        Check.due("letter(200, 0)", hall.letter(200, 0), -1);
        Check.due("value(0, 0)", hall.value(0, 0), 0);
        Check.due("set(0, 0)", hall.set(0, 0), false);
        Check.due("strike(0, 0)", hall.strike(0, 0), -1);
        Check.due("tick(0)", hall.tick(0), 0);
        Check.due("an empty tape is no E", hall.ask(), -1);
        Check.gives(hall, "step", 7, Check.bits(1.0));
        Check.refusedAskedAt(hall, "^a", 3);
        Check.due("an empty tape is a plan", hall.plan(), 0);
        Check.due("another object is its own", new TurningHall().count(4) + new TurningHall().fault(), 0);
    }

    private static void feed() {
        Check.sentence("Twenty bytes come behind those on the tape, of each number the highest first: how many there are; NONE, when there would be more than 3000.");
        TurningHall hall = new TurningHall();
        // "1234" "5678" "9012" "3456" "789l" in one feed: the first byte of the first number is the first of all.
        Check.due("feed", hall.feed(0x30303132, 0x33343536, 0x37383930, 0x31323334, 0x3536376c), 20);
        Check.due("ask()", hall.ask(), 5);
        Check.due("told()", hall.told(), 12345678901234567L);
        // Numbers below 0 have bytes of 128 and more first.
        Check.due("feed", hall.feed(0x61ff6161, -1, 0, 0, 0), 20);
        Check.due("its 2nd byte begins no token", hall.plan(), -1);
        hall.feed(0x73686f77, 0x20613a69, 0x6e743d31, 0x3b80ffff, -1);
        Check.due("13 bytes of it", hall.end(13), 13);
        Check.due("plan()", hall.plan(), 1);
        // Behind those that are there.
        Check.due("feed", hall.feed(0x31202020, BLANKS, BLANKS, BLANKS, BLANKS), 20);
        Check.due("end", hall.end(1), 1);
        Check.due("feed", hall.feed(0x2b322020, BLANKS, BLANKS, BLANKS, BLANKS), 21);
        Check.due("feed", feedBlanks(hall), 41);
        Check.due("ask()", hall.ask(), 4);
        Check.due("told()", hall.told(), 3);
        for (int k = 1; k <= 150; k++) Check.due("feed " + k, feedBlanks(hall), 20L * k);
        Check.due("feed 151", feedBlanks(hall), -1);
        Check.due("the tape stays", hall.count(4), 3000);
        for (int n = 2981; n <= 3000; n++) Check.due("more behind 2981 and on", hall.end(3000 - (n - 2981)) > 2980 ? feedBlanks(hall) : 0, -1);
        Check.due("end(2980)", hall.end(2980), 2980);
        Check.due("3000 are no more", feedBlanks(hall), 3000);
        Check.due("end(2981)", hall.end(2981), 2981);
        Check.due("3001 are", feedBlanks(hall), -1);
        Check.due("count(4)", hall.count(4), 2981);
    }

    private static void end() {
        Check.sentence("The tape has its first n bytes alone: n; NONE when it has not so many, or n is below 0.");
        TurningHall hall = new TurningHall();
        Check.due("end(0) of none", hall.end(0), 0);
        Check.due("end(1) of none", hall.end(1), -1);
        Check.due("end(-1) of none", hall.end(-1), -1);
        hall.feed(0x31323334, BLANKS, BLANKS, BLANKS, BLANKS);
        for (int n : new int[] {21, 3000, 3001, Integer.MAX_VALUE, -1, Integer.MIN_VALUE}) Check.due("end(" + n + ")", hall.end(n), -1);
        Check.due("it stays", hall.count(4), 20);
        Check.due("end(20)", hall.end(20), 20);
        Check.due("end(3)", hall.end(3), 3);
        Check.due("end(4)", hall.end(4), -1);
        Check.due("count(4)", hall.count(4), 3);
        Check.due("ask()", hall.ask(), 4);
        Check.due("its first 3", hall.told(), 123);
        feedBlanks(hall);
        Check.due("end(0)", hall.end(0), 0);
        Check.due("count(4)", hall.count(4), 0);
    }

    private static void plan() {
        Check.sentence("The tape (empty then, in any case) becomes the plan: how many things; -1 - the place of a FAULT: all stays.");
        TurningHall hall = new TurningHall();
        Check.due("an empty plan", hall.plan(), 0);
        Check.due("bells and cams are no things", Check.plan(hall, "bell b when true;cam c=1;"), 0);
        Check.due("two things", Check.plan(hall, "part a:int=1 then a+1;bell r when a==3;show s:int=a;cam c=1;"), 2);
        Check.due("empty then", hall.count(4), 0);
        hall.tick(3);
        hall.set(0, 50);
        String[] refused = {"part", "show x:int=1;;", "show x:int=zz;", "show x:int=true;", "show t:int=1;".repeat(2), "#"};
        int[] kinds = {1, 1, 3, 4, 3, 1};
        int[] places = {4, 13, 11, 10, 18, 0};
        for (int k = 0; k < refused.length; k++) {
            Check.due(refused[k], Check.plan(hall, refused[k]), -1 - places[k]);
            Check.due("its kind", hall.fault(), kinds[k]);
            Check.due("empty then", hall.count(4), 0);
            Check.due("things stay", hall.count(0), 2);
            Check.due("bells stay", hall.count(1), 1);
            Check.due("cams stay", hall.count(2), 1);
            Check.due("NODES stay", hall.count(3), 8);
            Check.due("ticks stay", hall.tick(0), 3);
            Check.due("values stay", hall.value(0, 0), 50);
            Check.due("values stay", hall.value(1, 0), 4);
            Check.due("pasts stay", hall.value(0, 1), 3);
            Check.due("strikes stay", hall.strike(0, 0), 2);
            Check.due("names stay", hall.letter(100, 0), 'r');
            Check.due("NAMES of formulas stay", Check.ask(hall, "a+s+(int)c[0]"), 4);
            Check.due("told()", hall.told(), 55);
        }
        hall.tick(1);
        Check.due("formulas stay", hall.value(0, 0), 51);
        Check.due("formulas stay", hall.value(1, 0), 51);
        Check.due("a jam is no fault", Check.plan(hall, "show a:int=1/0;"), 1);
        Check.due("fault()", hall.fault(), 0);
    }

    private static void fault() {
        Check.sentence("The kind of the FAULT of the latest plan(), ask() or await() (0 without one, and ahead of any).");
        TurningHall hall = new TurningHall();
        Check.due("ahead of any", hall.fault(), 0);
        String large = "1+".repeat(250) + "1";
        String[] asked = {"1", "", "1", large, "zz", "1+true", "1/0"};
        int[] kinds = {0, 1, 0, 2, 3, 4, 0};
        for (int k = 0; k < asked.length; k++) {
            Check.ask(hall, asked[k]);
            Check.due("of ask " + k, hall.fault(), kinds[k]);
        }
        String[] awaited = {"true", "", "true", large + "==1", "zz", "1+true", "1/0==1", "1"};
        int[] due = {0, 1, 0, 2, 3, 4, 0, 4};
        for (int k = 0; k < awaited.length; k++) {
            Check.await(hall, awaited[k], 0);
            Check.due("of await " + k, hall.fault(), due[k]);
        }
        String[] plans = {"", "x", "show a:int=1;", "show a:int=" + large + ";", "show a:int=zz;", "show a:int=true;", "show a:int=1/0;"};
        for (int k = 0; k < plans.length; k++) {
            Check.plan(hall, plans[k]);
            Check.due("of plan " + k, hall.fault(), kinds[k]);
        }
        // Others leave it.
        Check.ask(hall, "zz");
        hall.tick(1);
        hall.tick(-1);
        hall.feed(0, 0, 0, 0, 0);
        hall.end(-1);
        hall.set(99, 0);
        hall.dial(0, 99);
        Check.due("others leave it", hall.fault(), 3);
    }

    private static void count() {
        Check.sentence("How many 0 things, 1 bells, 2 cams, 3 NODES of the plan, 4 bytes of the tape, 5 STRIKES that are kept, 6 bytes of TEXT, 7 wheels of the latest train (0 ahead of any). NONE for another what.");
        TurningHall hall = new TurningHall();
        for (int what = 0; what < 8; what++) Check.due("count(" + what + ") ahead of any", hall.count(what), 0);
        Check.plan(hall, "part a:int=1 then a+1;show s:int=a;bell b when true;bell c when ticks==1l;bell d when false;cam m=1,2;cam n=3;cam o=4;cam p=5;");
        feedBlanks(hall);
        hall.end(7);
        hall.tick(3);
        hall.dial(Check.bits(12.5), 2);
        hall.train(Check.bits(1.0), 2, 4, 5);
        int[] due = {2, 3, 4, 10, 7, 4, 5, 4};
        for (int what = 0; what < 8; what++) Check.due("count(" + what + ")", hall.count(what), due[what]);
        for (int what : new int[] {-1, 8, 9, 100, Integer.MAX_VALUE, Integer.MIN_VALUE}) Check.due("count(" + what + ")", hall.count(what), -1);
        hall.train(Check.bits(1.0), 1, 4, 5);
        Check.due("2 wheels", hall.count(7), 2);
        hall.train(Check.bits(1.0), 3, 4, 5);
        Check.due("a refused one leaves them", hall.count(7), 2);
        int[] then = {0, 0, 0, 0, 0, 0, 5, 2};
        for (int k = 0; k < 3; k++) {
            Check.plan(hall, "");
            for (int what = 0; what < 8; what++) Check.due("count(" + what + ") with an empty plan", hall.count(what), then[what]);
        }
    }

    private static final String ALL = "show t:truth=true;part bb:byte=(byte)1 then bb;show sss:short=(short)1;part abcdefghij:char=(char)1 then abcdefghij;"
        + "part i:int=1/0 then 1%0;show l:long=1;part f:float=1 then f;show d:double=1;bell r when true;bell ring2 when 1.0/0.0<1.0;cam mm=1;";

    /** A plan with all the things, bells and cams that there may be. */
    private static TurningHall full() {
        StringBuilder text = new StringBuilder();
        for (int k = 0; k < 40; k++) text.append("part t").append(k).append(":int=").append(k + 1).append(" then 7;");
        for (int k = 0; k < 12; k++) text.append("bell b").append(k).append(" when true;");
        for (int k = 0; k < 8; k++) text.append("cam c").append(k).append("=1;");
        return Check.hall(text.toString());
    }

    private static void things() {
        Check.sentence("Of thing i: 0 its sort, 1 whether it is a part (1), 2 bytes of its name, 3 JAMS, 4 the latest kind (0 without), 5 its place (NONE without).");
        TurningHall hall = Check.hall(ALL);
        int[] parts = {0, 1, 0, 1, 1, 0, 1, 0};
        int[] sizes = {1, 2, 3, 10, 1, 1, 1, 1};
        for (int ticks = 0; ticks < 3; ticks++) {
            for (int i = 0; i < 8; i++) {
                Check.due("sort", hall.thing(i, 0), i);
                Check.due("part", hall.thing(i, 1), parts[i]);
                Check.due("bytes", hall.thing(i, 2), sizes[i]);
                Check.due("JAMS", hall.thing(i, 3), i == 4 ? ticks + 1 : 0);
                Check.due("kind", hall.thing(i, 4), i == 4 ? 1 : 0);
                Check.due("place", hall.thing(i, 5), i == 4 ? ALL.indexOf(ticks == 0 ? "/0 then" : "%0;") : -1);
            }
            hall.tick(1);
        }
    }

    private static void bells() {
        Check.sentence("Of bell i - 100 (100 on): 2, 3, 4, 5 likewise, 6 its COUNT.");
        TurningHall hall = Check.hall(ALL);
        hall.tick(5);
        int[] first = {-1, -1, 1, 0, 0, -1, 5};
        int[] second = {-1, -1, 5, 5, 2, ALL.indexOf("/0.0"), 0};
        for (int what = 0; what < 7; what++) {
            Check.due("thing(100, " + what + ")", hall.thing(100, what), first[what]);
            Check.due("thing(101, " + what + ")", hall.thing(101, what), second[what]);
        }
    }

    private static void noThing() {
        Check.sentence("6 its COUNT. NONE when there is none such, or another what.");
        TurningHall hall = Check.hall(ALL);
        hall.tick(1);
        int[] none = {-1, 8, 9, 39, 40, 41, 50, 99, 102, 103, 111, 112, 113, 152, 200, 201, 300, Integer.MAX_VALUE, Integer.MIN_VALUE};
        for (int i : none) {
            for (int what = -1; what < 8; what++) Check.due("thing(" + i + ", " + what + ")", hall.thing(i, what), -1);
        }
        for (int what : new int[] {-1, 6, 7, 8, Integer.MAX_VALUE, Integer.MIN_VALUE}) {
            for (int i = 0; i < 8; i++) Check.due("thing(" + i + ", " + what + ")", hall.thing(i, what), -1);
        }
        for (int what : new int[] {-1, 0, 1, 7, 8, Integer.MAX_VALUE, Integer.MIN_VALUE}) {
            for (int i = 100; i < 102; i++) Check.due("thing(" + i + ", " + what + ")", hall.thing(i, what), -1);
        }
        TurningHall full = full();
        full.tick(2);
        for (int what = -1; what < 8; what++) {
            for (int i : new int[] {-1, 40, 41, 52, 60, 99, 112, 113, 208}) Check.due("thing(" + i + ", " + what + ") of a full plan", full.thing(i, what), -1);
        }
        Check.due("the last thing", full.thing(39, 2), 3);
        Check.due("the last bell", full.thing(111, 6), 2);
        // What there was with the plans before is none such.
        for (int k = 0; k < 3; k++) {
            Check.plan(hall, "show a:int=1;");
            for (int i : new int[] {1, 2, 7, 100, 101}) Check.due("thing(" + i + ", 2)", hall.thing(i, 2), -1);
        }
    }

    private static void letters() {
        Check.sentence("Byte k of the name of thing i, of bell i - 100, of cam i - 200; NONE when there is none such.");
        TurningHall hall = Check.hall(ALL + "cam c123456789=1;bell Z when true;");
        int[] rows = {0, 1, 2, 3, 4, 7, 100, 101, 102, 200, 201};
        String[] names = {"t", "bb", "sss", "abcdefghij", "i", "d", "r", "ring2", "Z", "mm", "c123456789"};
        for (int r = 0; r < rows.length; r++) {
            for (int k = -2; k < 13; k++) Check.due("letter(" + rows[r] + ", " + k + ")", hall.letter(rows[r], k), k >= 0 && k < names[r].length() ? names[r].charAt(k) : -1);
            Check.due("the far ends", hall.letter(rows[r], Integer.MAX_VALUE) + hall.letter(rows[r], Integer.MIN_VALUE), -2);
        }
        for (int i : new int[] {-1, 8, 40, 52, 99, 103, 112, 199, 202, 208, 209, 300, Integer.MAX_VALUE, Integer.MIN_VALUE}) {
            for (int k = -1; k < 3; k++) Check.due("letter(" + i + ", " + k + ")", hall.letter(i, k), -1);
        }
        TurningHall full = full();
        for (int i : new int[] {-1, 40, 41, 52, 60, 99, 112, 113, 199, 208, 209}) {
            for (int k = -1; k < 11; k++) Check.due("letter(" + i + ", " + k + ") of a full plan", full.letter(i, k), -1);
        }
        Check.due("the last of all", full.letter(39, 2) + full.letter(111, 2) + full.letter(207, 1), '9' + '1' + '7');
        for (int k = 0; k < 3; k++) {
            Check.plan(hall, "cam x=1;");
            for (int i : new int[] {0, 1, 7, 100, 101, 102, 201}) Check.due("of the plans before none: " + i, hall.letter(i, 0), -1);
            Check.due("x", hall.letter(200, 0), 'x');
            Check.due("x has 1 byte", hall.letter(200, 1), -1);
        }
    }

    private static void values() {
        Check.sentence("The BITS of thing i (ago 0), or what they were ahead of the latest tick of this plan, of the one before, .. (ago 1 .. 31; set() doesn't change these; 0 when there was none).");
        String plan = "part a:int=100 then a+1;show d:double=(a+0.5)*-1.0;part f:float=-1f then f*2;part t:truth=true then !t;";
        for (int tick = 0; tick <= 70; tick++) {
            TurningHall hall = Check.hall(plan);
            hall.tick(tick / 3);
            hall.tick(tick - tick / 3);
            int most = Math.min(tick, 31);
            for (int ago = 0; ago <= most; ago++) {
                int then = tick - ago;
                Check.due("a at " + tick + ", " + ago + " ago", hall.value(0, ago), 100 + then);
                Check.due("d at " + tick + ", " + ago + " ago", hall.value(1, ago), Check.bits(-(100.5 + then)));
                Check.due("f at " + tick + ", " + ago + " ago", hall.value(2, ago), Check.bits(-Math.scalb(1f, then)));
                Check.due("t at " + tick + ", " + ago + " ago", hall.value(3, ago), 1 - then % 2);
            }
            for (int ago = most + 1; ago <= 31; ago++) Check.due("there was none", hall.value(0, ago), 0);
        }
        TurningHall hall = Check.hall(plan);
        for (int tick = 0; tick < 71; tick++) hall.tick(1);
        // set() changes what is, and what will have been, but not what was.
        Check.due("set(0, -5)", hall.set(0, -5), true);
        Check.due("a", hall.value(0, 0), -5);
        for (int ago = 1; ago <= 31; ago++) Check.due("a " + ago + " ago", hall.value(0, ago), 171 - ago);
        hall.tick(1);
        Check.due("what was set is past", hall.value(0, 1), -5);
        Check.due("and what was ahead of it", hall.value(0, 2), 170);
        Check.plan(hall, "part a:int=7 then 8;");
        for (int ago = 1; ago <= 31; ago++) Check.due("none of this plan", hall.value(0, ago), 0);
        hall.tick(1);
        Check.due("the one of this plan", hall.value(0, 1), 7);
        Check.due("none of the plan before", hall.value(0, 2), 0);
    }

    private static void noValue() {
        Check.sentence("0 when there is no such thing, or for another ago.");
        TurningHall hall = Check.hall("part a:int=7 then a;bell b when true;cam c=5;show s:int=9;");
        hall.tick(100);
        for (int i : new int[] {-1, 2, 3, 39, 40, 41, 100, 101, 200, Integer.MAX_VALUE, Integer.MIN_VALUE}) {
            for (int ago : new int[] {0, 1, 31}) Check.due("value(" + i + ", " + ago + ")", hall.value(i, ago), 0);
        }
        for (int ago : new int[] {-1, -31, -32, 32, 33, 63, 64, 99, 100, Integer.MAX_VALUE, Integer.MIN_VALUE}) {
            Check.due("value(0, " + ago + ")", hall.value(0, ago), 0);
            Check.due("value(1, " + ago + ")", hall.value(1, ago), 0);
        }
        for (int tick = 0; tick < 35; tick++) {
            TurningHall full = full();
            full.tick(tick);
            for (int ago = -1; ago < 34; ago++) {
                for (int i : new int[] {-1, 40, 41, 100}) Check.due("value(" + i + ", " + ago + ") of a full plan", full.value(i, ago), 0);
                Check.due("value(39, " + ago + ")", full.value(39, ago), ago < 0 || ago > 31 || ago > tick ? 0 : ago == tick ? 40 : 7);
            }
        }
        Check.due("value(0, 31)", hall.value(0, 31), 7);
        Check.due("value(1, 31)", hall.value(1, 31), 9);
    }

    private static void sets() {
        Check.sentence("Part i becomes the value with these BITS (of TRUTH the lowest bit; of wholes the lowest 8, 16, 32, with sign but for CHAR; of a FLOAT the lowest 32), its OLD too:");
        String plan = "part t:truth=false then t;part b:byte=(byte)1 then b;part s:short=(short)1 then s;part c:char=(char)1 then c;"
            + "part i:int=1 then i;part l:long=1 then l;part f:float=1 then f;part d:double=1 then d;";
        String[] names = {"t", "b", "s", "c", "i", "l", "f", "d"};
        long[] all = {0, 1, 2, -1, 127, 128, 255, 256, -128, -129, 32767, 32768, 65535, 65536, -32768, -32769, 2147483647L, 2147483648L, 4294967295L, 4294967296L, -2147483649L,
            Long.MAX_VALUE, Long.MIN_VALUE, 0xfedcba9876543210L, 0x0123456789abcdefL, 0x7fefffffffffffffL, 0x00000000ff7fffffL, 0x123456787f7fffffL, 0xffffffff00000001L};
        for (long bits : all) {
            TurningHall hall = Check.hall(plan);
            hall.tick(1);
            long[] due = {bits & 1, (byte) bits, (short) bits, (char) bits, (int) bits, bits, (int) bits, bits};
            for (int i = 0; i < 8; i++) {
                boolean fine = i == 6 ? Float.isFinite(Float.intBitsToFloat((int) bits)) : i != 7 || Double.isFinite(Double.longBitsToDouble(bits));
                Check.due("set(" + i + ", " + bits + ")", hall.set(i, bits), fine);
                if (!fine) continue;
                Check.due("value(" + i + ", 0)", hall.value(i, 0), due[i]);
                Check.gives(hall, names[i], i, due[i]);
                Check.gives(hall, "old(" + names[i] + ")", i, due[i]);
            }
        }
        TurningHall hall = Check.hall(plan);
        Check.due("TRUTH 3 is true", hall.set(0, 3) && hall.value(0, 0) == 1, true);
        Check.due("TRUTH 2 is false", hall.set(0, 2) && hall.value(0, 0) == 0, true);
    }

    private static void noSet() {
        Check.sentence("its OLD too: false, when there is no such part, or a real that is not finite.");
        TurningHall hall = Check.hall("show s:int=1;part f:float=1 then f;part d:double=1 then d;bell b when true;cam c=1;");
        for (int i : new int[] {-1, 0, 3, 4, 39, 40, 99, 100, 200, Integer.MAX_VALUE, Integer.MIN_VALUE}) Check.due("set(" + i + ", 5)", hall.set(i, 5), false);
        Check.due("a show stays", hall.value(0, 0), 1);
        hall.tick(1);
        for (long bits : new long[] {0x7ff0000000000000L, 0xfff0000000000000L, 0x7ff8000000000000L, 0x7ff0000000000001L, -1}) {
            Check.due("DOUBLE " + bits, hall.set(2, bits), false);
            Check.due("it stays", hall.value(2, 0), Check.bits(1.0));
            Check.gives(hall, "old(d)", 7, Check.bits(1.0));
        }
        for (long bits : new long[] {0x7f800000L, 0xff800000L, 0x7fc00000L, 0x7f800001L, -1, 0x1234567f800000L, 0xffffffffff800000L}) {
            Check.due("FLOAT " + bits, hall.set(1, bits), false);
            Check.due("it stays", hall.value(1, 0), Check.bits(1f));
            Check.gives(hall, "old(f)", 6, Check.bits(1f));
        }
        // The high bits of a FLOAT don't count, nor do a FLOAT's ends for a DOUBLE.
        Check.due("FLOAT", hall.set(1, 0x7ff000003f800000L), true);
        Check.due("DOUBLE", hall.set(2, 0x7f800000L), true);
        Check.due("of no plan", new TurningHall().set(0, 0), false);
        TurningHall full = full();
        for (int i : new int[] {-1, 40, 41, 52, 100}) Check.due("set(" + i + ", 5) of a full plan", full.set(i, 5), false);
        Check.due("the last part", full.set(39, 5) && full.value(39, 0) == 5 && full.value(38, 0) == 39, true);
        // No part of the plans before is one of this.
        Check.plan(hall, "part a:int=1 then a;part b:int=1 then b;part c:int=1 then c;");
        for (int k = 0; k < 3; k++) {
            Check.plan(hall, "show s:int=1;");
            for (int i = 0; i < 4; i++) Check.due("set(" + i + ", 5)", hall.set(i, 5), false);
            for (int i = 1; i < 4; i++) Check.due("value(" + i + ", 0)", hall.value(i, 0), 0);
        }
    }

    private static void steps() {
        Check.sentence("STEP becomes the DOUBLE with these BITS: false, when that is not finite. (It stays with a new plan.)");
        TurningHall hall = Check.hall("part a:double=step then a+step;");
        Check.due("1.0 at first", hall.value(0, 0), Check.bits(1.0));
        double[] steps = {0.25, -3.5, 0.0, -0.0, Double.MIN_VALUE, -Double.MIN_VALUE, Double.MAX_VALUE, -Double.MAX_VALUE, Double.MIN_NORMAL, 0.1};
        for (double x : steps) {
            Check.due("step " + x, hall.step(Check.bits(x)), true);
            Check.gives(hall, "step", 7, Check.bits(x));
            for (double bad : new double[] {Double.NaN, Double.POSITIVE_INFINITY, Double.NEGATIVE_INFINITY}) {
                Check.due("step " + bad, hall.step(Check.bits(bad)), false);
                Check.gives(hall, "step", 7, Check.bits(x));
            }
        }
        Check.due("step no number", hall.step(0x7ff0000000000001L), false);
        Check.due("a new plan", Check.plan(hall, "show b:double=step;"), 1);
        Check.due("it stays", hall.value(0, 0), Check.bits(0.1));
        Check.due("a refused plan", Check.plan(hall, "show"), -5);
        Check.gives(hall, "step", 7, Check.bits(0.1));
        hall.step(Check.bits(2.0));
        hall.tick(1);
        Check.due("by the next tick", hall.value(0, 0), Check.bits(2.0));
        Check.plan(hall, "part a:double=step then a+step;part b:double=step*2.0 then b-step/4.0;");
        hall.step(Check.bits(0.5));
        hall.tick(3);
        Check.due("2.0 and three times 0.5", hall.value(0, 0), Check.bits(3.5));
        Check.due("4.0 less three times 0.125", hall.value(1, 0), Check.bits(3.625));
    }

    private static void ticks() {
        Check.sentence("n TICKS (0 .. 500): ticks in all; NONE for another n.");
        TurningHall hall = Check.hall("part a:int=0 then a+1;");
        Check.due("tick(0)", hall.tick(0), 0);
        Check.due("a", hall.value(0, 0), 0);
        Check.due("tick(1)", hall.tick(1), 1);
        Check.due("tick(500)", hall.tick(500), 501);
        Check.due("a", hall.value(0, 0), 501);
        Check.due("tick(499)", hall.tick(499), 1000);
        for (int n : new int[] {-1, 501, 502, 1000, Integer.MAX_VALUE, Integer.MIN_VALUE}) Check.due("tick(" + n + ")", hall.tick(n), -1);
        Check.due("nothing ticked", hall.value(0, 0), 1000);
        Check.due("tick(0)", hall.tick(0), 1000);
        Check.due("of no plan", new TurningHall().tick(500), 500);
    }

    private static void strikes() {
        Check.sentence("Of the STRIKE that was k ahead of the latest (k 0): its tick (what 0), its bell (1); NONE when there is none such, or for another what.");
        TurningHall hall = Check.hall("bell a when ticks%2l==0l;bell b when ticks%3l==0l;");
        Check.due("none yet", hall.strike(0, 0), -1);
        hall.tick(1);
        Check.due("none yet", hall.strike(0, 1), -1);
        hall.tick(5);
        long[][] due = {{6, 1}, {6, 0}, {4, 0}, {3, 1}, {2, 0}};
        for (int k = 0; k < 5; k++) {
            for (int what = 0; what < 2; what++) Check.due("strike(" + k + ", " + what + ")", hall.strike(k, what), due[k][what]);
            for (int what : new int[] {-1, 2, 3, Integer.MAX_VALUE, Integer.MIN_VALUE}) Check.due("strike(" + k + ", " + what + ")", hall.strike(k, what), -1);
        }
        for (int k : new int[] {-1, 5, 6, 63, 64, Integer.MAX_VALUE, Integer.MIN_VALUE}) Check.due("strike(" + k + ", 0)", hall.strike(k, 0) + hall.strike(k, 1), -2);
        hall.tick(200);
        for (int what = 0; what < 2; what++) {
            Check.due("strike(63, " + what + ")", hall.strike(63, what) >= 0, true);
            Check.due("strike(64, " + what + ")", hall.strike(64, what), -1);
            Check.due("strike(-1, " + what + ")", hall.strike(-1, what), -1);
        }
        Check.plan(hall, "");
        Check.due("none of the plan before", hall.strike(0, 0), -1);
    }

    private static void asks() {
        Check.sentence("The tape (empty then) is an E, worked out now (old as of the latest tick): its sort; 8 and the JAM's kind; -1 - the place of a FAULT.");
        TurningHall hall = Check.hall("part a:int=5 then a+1;cam c=1;");
        hall.tick(2);
        String[] texts = {"true", "(byte)1", "(short)1", "(char)1", "1", "1l", "1f", "1.0", "1/0", "1/0.0", "1p1023*2", "c[1]", "", "1 1", "1+", "zz", "1+true"};
        int[] due = {0, 1, 2, 3, 4, 5, 6, 7, 9, 10, 11, 12, -1, -3, -3, -1, -2};
        for (int k = 0; k < texts.length; k++) {
            Check.due("ask() of " + texts[k], Check.ask(hall, texts[k]), due[k]);
            Check.due("the tape is empty", hall.count(4), 0);
        }
        Check.gives(hall, "a*100+old(a)", 4, 706);
        Check.gives(hall, "ticks", 5, 2);
        Check.due("it ticks nothing", hall.tick(0), 2);
        // Nothing of an E before is left in the next, however much longer it was, or where it jammed.
        String[] before = {"c[0]", "1/0", "c[7]", "-1", "!true", "1+2*3-(4%5)", "(float)1p1", "true?1:2", "false&&1/0==1", "least(1,2)", "1/0+1/0", "floor(2.5)", "1+", "zz", "7/zz", "1+true"};
        for (String text : before) {
            TurningHall one = Check.hall("part a:int=5 then a+1;cam c=1;");
            one.tick(2);
            Check.ask(one, text);
            Check.gives(one, "7", 4, 7);
            Check.ask(one, text);
            Check.gives(one, "ticks+7", 5, 9);
            Check.ask(one, text);
            Check.gives(one, "step", 7, Check.bits(1.0));
        }
        // The same of plans.
        for (String text : before) {
            TurningHall plans = new TurningHall();
            Check.plan(plans, "cam c=1;part a:double=0 then 1;show b:truth=true;");
            Check.plan(plans, "cam c=1;show a:double=" + text + ";");
            for (int k = 0; k < 3; k++) {
                Check.due("plan", Check.plan(plans, "show x:int=7;"), 1);
                plans.tick(1);
                Check.due("JAMS", plans.thing(0, 3), 0);
                Check.due("x", plans.value(0, 0), 7);
            }
        }
        Check.ask(hall, "a/0");
        Check.due("its jams are nobody's", hall.thing(0, 3), 0);
    }

    private static void told() {
        Check.sentence("The BITS of the latest ask() that gave a value (0 ahead of any; others leave them).");
        TurningHall hall = new TurningHall();
        Check.due("ahead of any", hall.told(), 0);
        Check.ask(hall, "1/0");
        Check.due("a jam gave none", hall.told(), 0);
        Check.ask(hall, "1+");
        Check.due("a fault gave none", hall.told(), 0);
        Check.await(hall, "true", 1);
        Check.due("an await() is no ask()", hall.told(), 0);
        Check.gives(hall, "-7", 4, -7);
        Check.gives(hall, "-7.0", 7, Check.bits(-7.0));
        Check.ask(hall, "1.0/0.0");
        Check.due("a jam leaves them", hall.told(), Check.bits(-7.0));
        Check.ask(hall, "zz");
        Check.due("a fault leaves them", hall.told(), Check.bits(-7.0));
        Check.await(hall, "true", 0);
        Check.due("an await() leaves them", hall.told(), Check.bits(-7.0));
        Check.plan(hall, "show a:int=1;");
        hall.tick(3);
        hall.keep(0);
        Check.gives(hall, "true", 0, 1);
        hall.back(0);
        Check.due("back() leaves them", hall.told(), 1);
        Check.gives(hall, "false", 0, 0);
    }

    private static final String COUNTER = "part a:int=0 then a+1;bell r when a==3;part j:int=1 then 1/(a-5);";

    private static void awaits() {
        Check.sentence("The tape (empty then) is an E, a TRUTH (else FAULT 4 at 0); it is asked, then a TICK, and so on, till it is true, or n ticks (0 .. 500) are done and it was asked once more: how many ticks;");
        TurningHall hall = Check.hall(COUNTER);
        Check.due("true at once", Check.await(hall, "a==0", 10), 0);
        Check.due("the tape is empty", hall.count(4), 0);
        Check.due("no tick", hall.tick(0), 0);
        Check.due("true at once, n 0", Check.await(hall, "true", 0), 0);
        Check.due("after 1 of 1", Check.await(hall, "a==1", 1), 1);
        Check.due("after 4 of 500", Check.await(hall, "a==5", 500), 4);
        Check.due("bells struck on the way", hall.thing(100, 6), 1);
        Check.due("a part jammed on the way", hall.thing(1, 3), 1);
        Check.due("ticks", hall.tick(0), 5);
        Check.due("500 of 500", Check.await(hall, "a==505", 500), 500);
        Check.due("OLD as of the latest tick", Check.await(hall, "old(a)==506", 9), 2);
        Check.due("ticks", hall.tick(0), 507);
        for (String text : new String[] {"a", "1.0", "ticks", "(byte)1"}) {
            Check.due("no TRUTH: " + text, Check.await(hall, text, 5), -1);
            Check.due("fault()", hall.fault(), 4);
        }
        Check.due("nothing ticked", hall.tick(0), 507);
    }

    private static void notTrue() {
        Check.sentence("-2 when it was not true then; -3 when it jams (what was ticked stays);");
        TurningHall hall = Check.hall(COUNTER);
        Check.due("n 0", Check.await(hall, "a==1", 0), -2);
        Check.due("no tick", hall.tick(0), 0);
        Check.due("one too few", Check.await(hall, "a==5", 4), -2);
        Check.due("4 ticks", hall.tick(0), 4);
        Check.due("never", Check.await(hall, "false", 500), -2);
        Check.due("500 ticks", hall.tick(0), 504);
        Check.due("fault()", hall.fault(), 0);
        Check.due("it jams at once", Check.await(hall, "1/0==0", 500), -3);
        Check.due("no tick", hall.tick(0), 504);
        Check.due("it jams in time", Check.await(hall, "1/(a-507)>1", 500), -3);
        Check.due("3 ticks", hall.tick(0), 507);
        Check.due("it jams as it is asked once more", Check.await(hall, "1/(a-510)>1", 3), -3);
        Check.due("3 ticks", hall.tick(0), 510);
        Check.due("fault()", hall.fault(), 0);
        Check.due("the tape is empty", hall.count(4), 0);
        Check.due("jams of the E are nobody's", hall.thing(0, 3) + hall.thing(100, 3), 0);
    }

    private static void noAwait() {
        Check.sentence("NONE for another n (the tape is empty all the same; fault() stays), or with a FAULT.");
        TurningHall hall = Check.hall(COUNTER);
        for (int n : new int[] {-1, 501, 502, Integer.MAX_VALUE, Integer.MIN_VALUE}) {
            Check.ask(hall, "zz");
            Check.due("n " + n, Check.await(hall, "true", n), -1);
            Check.due("the tape is empty", hall.count(4), 0);
            Check.due("fault() stays", hall.fault(), 3);
            Check.ask(hall, "1");
            Check.due("n " + n + " with what is no E", Check.await(hall, "zz", n), -1);
            Check.due("the tape is empty", hall.count(4), 0);
            Check.due("fault() stays", hall.fault(), 0);
        }
        String[] faults = {"", "a=", "1+".repeat(250) + "1==1", "zz", "a+true", "a"};
        int[] kinds = {1, 1, 2, 3, 4, 4};
        for (int k = 0; k < faults.length; k++) {
            Check.due("a fault", Check.await(hall, faults[k], 500), -1);
            Check.due("its kind", hall.fault(), kinds[k]);
            Check.due("the tape is empty", hall.count(4), 0);
        }
        Check.due("nothing ticked", hall.tick(0), 0);
    }

    public static void run() {
        manyCalls();
        newObject();
        feed();
        end();
        plan();
        fault();
        count();
        things();
        bells();
        noThing();
        letters();
        values();
        noValue();
        sets();
        noSet();
        steps();
        ticks();
        strikes();
        asks();
        told();
        awaits();
        notTrue();
        noAwait();
    }

    public static void main(String[] args) {
        run();
        Check.close("EdgesOfCallsTest");
    }
}
