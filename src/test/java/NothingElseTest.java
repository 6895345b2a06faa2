import java.util.function.Consumer;

/** Each call changes what the document tells of it, and nothing else: all else that can be asked is as it was. */
public final class NothingElseTest {
    private static final String PLAN = "cam c=1,2;part a:int=1 then a*3%1000;part j:int=5 then ticks%3l==0l?1/(a-a):j+1;show d:double=step*a/(a-7.0);"
        + "part f:float=1f then ticks%5l==0l?(float)1p300:f*0.5f;bell r when a%2==1;bell q when 1/(a%7-2)==0;";

    // What may be asked: T the tape, F fault(), P the plan, V all that turns, G how it goes on (by V and S), S STEP,
    // X TEXT, W wheels, O told(), 0 to 3 what is kept there.
    private static final String ALL = "TFPVGSXWO0123";

    /** A hall with something of everything. */
    private static TurningHall rich() {
        TurningHall hall = Check.hall(PLAN);
        hall.step(Check.bits(0.5));
        hall.tick(3);
        hall.keep(0);
        hall.set(0, 7);
        hall.tick(40);
        hall.step(Check.bits(0.25));
        hall.keep(2);
        hall.tick(3);
        hall.set(1, 11);
        hall.dial(Check.bits(-12.5), 2);
        hall.train(Check.bits(2.5), 2, 8, 12);
        Check.ask(hall, "6*7");
        Check.ask(hall, "zz");
        Check.tape(hall, "a+1000");
        return hall;
    }

    private static String turning(TurningHall hall) {
        StringBuilder s = new StringBuilder();
        for (int i = 0; i < 4; i++) {
            for (int ago = 0; ago <= 31; ago++) s.append(hall.value(i, ago)).append(' ');
            for (int what = 3; what < 6; what++) s.append(hall.thing(i, what)).append(' ');
        }
        for (int bell = 100; bell < 102; bell++) {
            for (int what = 3; what < 7; what++) s.append(hall.thing(bell, what)).append(' ');
        }
        for (int k = 0; k < 65; k++) s.append(hall.strike(k, 0)).append(' ').append(hall.strike(k, 1)).append(' ');
        s.append(hall.count(5)).append(' ').append(hall.tick(0)).append(' ');
        for (String text : new String[] {"old(a)", "old(j)", "old(d)", "old(f)", "ticks"}) {
            s.append(Check.ask(hall, text)).append(' ').append(hall.told()).append(' ');
        }
        return s.toString();
    }

    private static String goesOn(TurningHall hall) {
        StringBuilder s = new StringBuilder();
        for (int k = 0; k < 20; k++) {
            s.append(hall.tick(k)).append(' ');
            for (int i = 0; i < 4; i++) s.append(hall.value(i, 0)).append(' ').append(hall.thing(i, 3)).append(' ');
            for (int bell = 100; bell < 102; bell++) s.append(hall.thing(bell, 3)).append(' ').append(hall.thing(bell, 6)).append(' ');
        }
        return s.toString();
    }

    private static String plan(TurningHall hall) {
        StringBuilder s = new StringBuilder();
        for (int what = 0; what < 4; what++) s.append(hall.count(what)).append(' ');
        for (int i : new int[] {0, 1, 2, 3, 4, 100, 101, 102}) {
            for (int what = 0; what < 3; what++) s.append(hall.thing(i, what)).append(' ');
            s.append(hall.letter(i, 0)).append(' ').append(hall.letter(i, 1)).append(' ');
        }
        s.append(hall.letter(200, 0)).append(' ').append(hall.letter(201, 0)).append(' ');
        for (String text : new String[] {"c[1]", "c[2]", "a-a+3", "d-d"}) s.append(Check.ask(hall, text)).append(' ').append(hall.told()).append(' ');
        return s.toString();
    }

    private static String seen(char what, TurningHall hall) {
        switch (what) {
            case 'T':
                return hall.count(4) + " " + hall.ask() + " " + hall.told();
            case 'F':
                return "" + hall.fault();
            case 'P':
                return plan(hall);
            case 'V':
                return turning(hall);
            case 'G':
                return goesOn(hall);
            case 'S':
                return Check.ask(hall, "step") + " " + hall.told();
            case 'X':
                return Check.text(hall) + " " + hall.octet(6);
            case 'W':
                return hall.count(7) + " " + hall.wheel(0) + " " + hall.wheel(1) + " " + hall.wheel(2) + " " + hall.wheel(3);
            case 'O':
                return "" + hall.told();
            default:
                boolean came = hall.back(what - '0');
                return came + " " + (came ? Check.ask(hall, "step") + " " + hall.told() + " " + turning(hall) : "");
        }
    }

    /** A call that changes of all that may be asked at most these. */
    private static void only(String changes, String name, Consumer<TurningHall> call) {
        for (int k = 0; k < ALL.length(); k++) {
            char what = ALL.charAt(k);
            if (changes.indexOf(what) >= 0 || what == 'G' && (changes.contains("V") || changes.contains("S"))) continue;
            TurningHall hall = rich();
            call.accept(hall);
            // The tape is asked as a formula: where its worth follows what turns, that must be left alone, too.
            if (what == 'T' && changes.indexOf('V') >= 0) {
                Check.due("the tape behind " + name, hall.count(4), 6);
            } else {
                Check.due(what + " behind " + name, seen(what, hall), seen(what, rich()));
            }
        }
    }

    private static void texts() {
        only("T", "feed()", hall -> hall.feed(1, 2, 3, 4, 5));
        only("T", "feed() that is refused at last", hall -> {
            for (int k = 0; k < 150; k++) hall.feed(1, 2, 3, 4, 5);
        });
        only("T", "end(0)", hall -> hall.end(0));
        only("T", "end(3)", hall -> hall.end(3));
        only("", "end(6)", hall -> hall.end(6));
        only("", "end(7)", hall -> hall.end(7));
        only("", "end(-1)", hall -> hall.end(-1));
        only("TFPV0123", "plan()", hall -> Check.plan(hall, "show z:int=1;"));
        only("TFPV0123", "plan() of the same text", hall -> Check.plan(hall, PLAN));
        only("TFPV0123", "plan() of an empty text", hall -> Check.plan(hall, ""));
        String[] allRefused = {"part", "show a:int=zz;", "show a:int=1+true;", "show a:int=1;cam c=" + "1,".repeat(24) + "1;", PLAN + "show a:int=1;",
            PLAN + "bell n when 1;"};
        for (String refused : allRefused) {
            only("TF", "plan() of " + refused, hall -> Check.plan(hall, refused));
        }
        only("", "fault()", hall -> hall.fault());
        for (int n = -1; n < 9; n++) {
            int what = n;
            only("", "count(" + what + ")", hall -> hall.count(what));
            for (int i : new int[] {-1, 0, 2, 4, 100, 101, 102, 200}) {
                only("", "thing, letter and value of " + i + ", " + what, hall -> {
                    hall.thing(i, what);
                    hall.letter(i, what);
                    hall.value(i, what);
                });
            }
        }
        only("V", "set(0, 5)", hall -> hall.set(0, 5));
        only("", "set() of a show", hall -> hall.set(2, 5));
        only("", "set() of a bell", hall -> hall.set(100, 5));
        only("", "set() of none", hall -> hall.set(4, 5));
        only("", "set() of -1", hall -> hall.set(-1, 5));
        only("", "set() of no number", hall -> hall.set(3, Check.bits(Float.NaN)));
        only("S", "step()", hall -> hall.step(Check.bits(3.0)));
        only("", "step() of no number", hall -> hall.step(Check.bits(Double.NaN)));
    }

    private static void ticks() {
        only("V", "tick(1)", hall -> hall.tick(1));
        only("V", "tick(500)", hall -> hall.tick(500));
        for (int n : new int[] {0, -1, 501}) only("", "tick(" + n + ")", hall -> hall.tick(n));
        only("", "strike()", hall -> {
            hall.strike(0, 0);
            hall.strike(0, 1);
            hall.strike(64, 0);
            hall.strike(0, 2);
        });
        only("TFO", "ask()", hall -> Check.ask(hall, "5"));
        for (String text : new String[] {"1/0", "1.0%0.0", "1p1023*2", "c[2]", "", "1+", "zz", "1+true", "1+".repeat(250) + "1"}) {
            only("TF", "ask() of " + text, hall -> Check.ask(hall, text));
            only("TF", "await() of " + text, hall -> Check.await(hall, text, 0));
        }
        only("", "told()", hall -> hall.told());
        only("TF", "await() of what is true", hall -> Check.await(hall, "true", 5));
        only("TF", "await() of what is no TRUTH", hall -> Check.await(hall, "1", 5));
        only("TF", "await() of what is false", hall -> Check.await(hall, "false", 0));
        only("TFV", "await() with ticks", hall -> Check.await(hall, "ticks>50l", 5));
        only("TFV", "await() that jams by and by", hall -> Check.await(hall, "1/(ticks-50l)==9l", 5));
        for (int n : new int[] {-1, 501}) only("T", "await(" + n + ")", hall -> hall.await(n));
    }

    private static void desk() {
        only("X", "dial()", hall -> hall.dial(Check.bits(7.5), 1));
        only("", "dial() with 19 digits", hall -> hall.dial(Check.bits(7.5), 19));
        only("", "dial() with -1", hall -> hall.dial(Check.bits(7.5), -1));
        only("", "dial() of no number", hall -> hall.dial(Check.bits(Double.NaN), 1));
        only("X", "clock()", hall -> hall.clock(Check.bits(7.5)));
        only("", "clock() of no number", hall -> hall.clock(Check.bits(Double.NaN)));
        for (int k : new int[] {-1, 0, 5, 6, 100}) {
            only("", "octet, wheel, date of " + k, hall -> {
                hall.octet(k);
                hall.wheel(k);
                hall.date(Check.bits(7.5), k);
            });
        }
        for (double x : new double[] {1.5, 0.0, -1.0, Double.NaN, Double.MAX_VALUE}) {
            only("", "measure and together of " + x, hall -> {
                hall.measure(Check.bits(x), Check.bits(2.5));
                hall.together(Check.bits(x), Check.bits(2.5));
            });
        }
        only("W", "train()", hall -> hall.train(Check.bits(7.5), 1, 4, 8));
        only("W", "train() of 2", hall -> hall.train(Check.bits(7.5), 2, 4, 8));
        for (int[] bad : new int[][] {{0, 4, 8}, {3, 4, 8}, {1, 3, 8}, {1, 8, 7}, {2, 4, 35}, {1, 190, 201}}) {
            only("", "train() with " + java.util.Arrays.toString(bad), hall -> hall.train(Check.bits(7.5), bad[0], bad[1], bad[2]));
        }
        for (double t : new double[] {0.0, -1.0, Double.NaN}) only("", "train() for " + t, hall -> hall.train(Check.bits(t), 1, 4, 8));
    }

    private static void keeping() {
        for (int n = 0; n < 4; n++) {
            int place = n;
            only("" + place, "keep(" + place + ")", hall -> hall.keep(place));
        }
        for (int n : new int[] {-1, 4}) only("", "keep(" + n + ")", hall -> hall.keep(n));
        only("VS", "back(0)", hall -> hall.back(0));
        only("VS", "back(2)", hall -> hall.back(2));
        for (int n : new int[] {-1, 1, 3, 4}) only("", "back(" + n + ")", hall -> hall.back(n));
    }

    private static void setting() {
        String[] was = turning(rich()).split(" ");
        for (int i : new int[] {0, 1, 3}) {
            TurningHall hall = rich();
            Check.due("set(" + i + ")", hall.set(i, 5), true);
            String[] is = turning(hall).split(" ");
            Check.due("as much is told", is.length, was.length);
            int changed = 0;
            for (int k = 0; k < was.length; k++) changed += was[k].equals(is[k]) ? 0 : 1;
            Check.due("what set(" + i + ", 5) changes: the value and its OLD", changed, 2);
            Check.due("the value", hall.value(i, 0), 5);
        }
    }

    public static void main(String[] args) {
        texts();
        ticks();
        desk();
        keeping();
        setting();
        Check.close("NothingElseTest");
    }
}
