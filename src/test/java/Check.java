/** What the tests share: counting what is not as due, and putting texts on a tape. */
final class Check {
    private static long asked = 0;
    private static int wrong = 0;

    private Check() { }

    static void due(String what, long got, long want) {
        asked++;
        if (got != want) {
            wrong++;
            if (wrong <= 50) System.out.println(what + " answered " + got + ", due is " + want);
        }
    }

    static void due(String what, boolean got, boolean want) {
        due(what, got ? 1L : 0L, want ? 1L : 0L);
    }

    static void due(String what, String got, String want) {
        asked++;
        if (!got.equals(want)) {
            wrong++;
            if (wrong <= 50) System.out.println(what + " answered '" + got + "', due is '" + want + "'");
        }
    }

    static void close(String name) {
        System.out.println(name + ": " + asked + " answers, " + wrong + " not as due");
        if (wrong != 0) System.exit(1);
    }

    static int wrong() {
        return wrong;
    }

    /** Five numbers for each twenty bytes of a text (characters 0 to 255), filled up with blanks. */
    static int[] numbers(String text) {
        int rows = (text.length() + 19) / 20;
        int[] result = new int[rows * 5];
        for (int k = 0; k < rows * 20; k++) {
            int c = k < text.length() ? text.charAt(k) & 255 : ' ';
            result[k / 4] = result[k / 4] << 8 | c;
        }
        return result;
    }

    /** The tape becomes this text. */
    static void tape(TurningHall hall, String text) {
        hall.end(0);
        int[] five = numbers(text);
        for (int k = 0; k < five.length; k += 5) {
            hall.feed(five[k], five[k + 1], five[k + 2], five[k + 3], five[k + 4]);
        }
        due("end(" + text.length() + ")", hall.end(text.length()), text.length());
    }

    static int plan(TurningHall hall, String text) {
        tape(hall, text);
        return hall.plan();
    }

    static int ask(TurningHall hall, String text) {
        tape(hall, text);
        return hall.ask();
    }

    static int await(TurningHall hall, String text, int n) {
        tape(hall, text);
        return hall.await(n);
    }

    static String text(TurningHall hall) {
        StringBuilder s = new StringBuilder();
        for (int k = 0; k < hall.count(6); k++) s.append((char) hall.octet(k));
        return s.toString();
    }

    static long bits(double x) {
        return Double.doubleToRawLongBits(x);
    }

    static long bits(float x) {
        return Float.floatToRawIntBits(x);
    }

    /** A plan that is refused: its kind and its place. */
    static void refused(String text, int kind, int place) {
        TurningHall hall = new TurningHall();
        due("plan() of " + text, plan(hall, text), -1L - place);
        due("fault() of " + text, hall.fault(), kind);
    }

    /** An E that is refused on a hall: its kind and its place. */
    static void refusedAsked(TurningHall hall, String text, int kind, int place) {
        due("ask() of " + text, ask(hall, text), -1L - place);
        due("fault() of " + text, hall.fault(), kind);
    }

    /** An E that gives a value on a hall: its sort and BITS. */
    static void gives(TurningHall hall, String text, int sort, long bits) {
        due("ask() of " + text, ask(hall, text), sort);
        due("told() of " + text, hall.told(), bits);
    }
}
