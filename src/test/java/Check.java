import java.nio.file.Files;
import java.nio.file.Path;
import java.util.ArrayList;
import java.util.List;

/** What the tests share: counting what is not as due, and putting texts on a tape. */
final class Check {
    /** What the tests of sentences have quoted so far, as it stands in the document. */
    static final List<String> QUOTED = new ArrayList<>();
    private static String sentence = "";
    private static long askedAhead = 0;
    private static String document = null;
    private static long asked = 0;
    private static int wrong = 0;

    private Check() { }

    static void due(String what, long got, long want) {
        asked++;
        if (got != want) tell(what, "" + got, "" + want);
    }

    private static String few(String text) {
        return text.length() <= 400 ? text : text.substring(0, 300) + " .. (" + text.length() + " characters)";
    }

    private static void tell(String what, String got, String want) {
        wrong++;
        if (wrong <= 50) System.out.println(sentence + few(what) + " answered " + few(got) + ", due is " + few(want));
    }

    static void due(String what, boolean got, boolean want) {
        due(what, got ? 1L : 0L, want ? 1L : 0L);
    }

    static void due(String what, String got, String want) {
        asked++;
        if (!got.equals(want)) tell(what, "'" + got + "'", "'" + want + "'");
    }

    /** The document's words, with one blank between them. */
    static String document() {
        if (document == null) {
            try {
                document = oneLine(Files.readString(Path.of("../shared/DOC.md")));
            } catch (java.io.IOException e) {
                System.out.println("../shared/DOC.md can't be read");
                System.exit(1);
            }
        }
        return document;
    }

    private static String oneLine(String text) {
        return text.replaceAll("\\s+", " ").trim();
    }

    /** What is checked from here on is due by this sentence, which stands in the document once, word by word. */
    static void sentence(String quote) {
        endSentence();
        String words = oneLine(quote);
        int at = document().indexOf(words);
        due("the document has the words '" + words + "'", at >= 0, true);
        due("it has them once alone: '" + words + "'", document().lastIndexOf(words), at);
        QUOTED.add(words);
        sentence = "[" + words + "] ";
        askedAhead = asked;
    }

    /** A sentence that is quoted must be tried by something. */
    static void endSentence() {
        if (!sentence.isEmpty() && asked == askedAhead) due("nothing tries it: answers", 0, 1);
        sentence = "";
    }

    static void close(String name) {
        endSentence();
        System.out.println(name + ": " + asked + " answers, " + wrong + " not as due");
        if (wrong != 0) System.exit(1);
    }

    static int wrong() {
        return wrong;
    }

    /** Five numbers for each twenty bytes of a text (characters 0 to 255), filled up with blanks. */
    static int[] numbers(String text) {
        int rows = (text.length() + 19) / 20;
        int[] result = new int[rows * 5];
        for (int k = 0; k < rows * 20; k++) {
            int c = k < text.length() ? text.charAt(k) & 255 : ' ';
            result[k / 4] = result[k / 4] << 8 | c;
        }
        return result;
    }

    /** How many calls tape() makes with this text. */
    static int calls(String text) {
        return 2 + (text.length() + 19) / 20;
    }

    /** The tape becomes this text. */
    static void tape(TurningHall hall, String text) {
        hall.end(0);
        int[] five = numbers(text);
        for (int k = 0; k < five.length; k += 5) {
            hall.feed(five[k], five[k + 1], five[k + 2], five[k + 3], five[k + 4]);
        }
        due("end(" + text.length() + ")", hall.end(text.length()), text.length());
    }

    static int plan(TurningHall hall, String text) {
        tape(hall, text);
        return hall.plan();
    }

    static int ask(TurningHall hall, String text) {
        tape(hall, text);
        return hall.ask();
    }

    static int ask(Halls halls, String text) {
        return ask(halls.of(calls(text) + 1), text);
    }

    static int await(TurningHall hall, String text, int n) {
        tape(hall, text);
        return hall.await(n);
    }

    static String text(TurningHall hall) {
        StringBuilder s = new StringBuilder();
        int many = hall.count(6);
        for (int k = 0; k < many; k++) s.append((char) hall.octet(k));
        return s.toString();
    }

    static long bits(double x) {
        return Double.doubleToRawLongBits(x);
    }

    static long bits(float x) {
        return Float.floatToRawIntBits(x);
    }

    /** A plan that is refused: its kind and its place. */
    static void refused(String text, int kind, int place) {
        TurningHall hall = new TurningHall();
        due("plan() of " + text, plan(hall, text), -1L - place);
        due("fault() of " + text, hall.fault(), kind);
    }

    /** An E that is refused on a hall: its kind and its place. */
    static void refusedAsked(TurningHall hall, String text, int kind, int place) {
        due("ask() of " + text, ask(hall, text), -1L - place);
        due("fault() of " + text, hall.fault(), kind);
    }

    static void refusedAsked(Halls halls, String text, int kind, int place) {
        refusedAsked(halls.of(calls(text) + 2), text, kind, place);
    }

    /** A plan that is refused where its text has a ^ (which is no part of it). */
    static void refusedAt(String marked, int kind) {
        int place = marked.indexOf('^');
        refused(marked.substring(0, place) + marked.substring(place + 1), kind, place);
    }

    /** An E that is refused where its text has a ^ (which is no part of it). */
    static void refusedAskedAt(TurningHall hall, String marked, int kind) {
        int place = marked.indexOf('^');
        refusedAsked(hall, marked.substring(0, place) + marked.substring(place + 1), kind, place);
    }

    static void refusedAskedAt(Halls halls, String marked, int kind) {
        refusedAskedAt(halls.of(calls(marked) + 2), marked, kind);
    }

    static void accepted(String text, int things) {
        TurningHall hall = new TurningHall();
        due("plan() of " + text, plan(hall, text), things);
        due("fault() of " + text, hall.fault(), 0);
    }

    /** A hall with this plan, which must be one. */
    static TurningHall hall(String text) {
        TurningHall hall = new TurningHall();
        due("plan() of " + text + " is refused", plan(hall, text) < 0, false);
        return hall;
    }

    /** An E that gives a value on a new hall: its sort and BITS. */
    static void is(String text, int sort, long bits) {
        gives(new TurningHall(), text, sort, bits);
    }

    static void isInt(String text, int value) {
        is(text, 4, value);
    }

    static void isLong(String text, long value) {
        is(text, 5, value);
    }

    static void isFloat(String text, float value) {
        is(text, 6, bits(value));
    }

    static void isDouble(String text, double value) {
        is(text, 7, bits(value));
    }

    static void isTruth(String text, boolean value) {
        is(text, 0, value ? 1 : 0);
    }

    /** An E that jams on a new hall. */
    static void jams(String text, int kind) {
        TurningHall hall = new TurningHall();
        due("ask() of " + text, ask(hall, text), 8 + kind);
        due("fault() of " + text, hall.fault(), 0);
    }

    /** An E that gives a value on a hall: its sort and BITS. */
    static void gives(TurningHall hall, String text, int sort, long bits) {
        due("ask() of " + text, ask(hall, text), sort);
        due("told() of " + text, hall.told(), bits);
    }

    static void gives(Halls halls, String text, int sort, long bits) {
        gives(halls.of(calls(text) + 2), text, sort, bits);
    }
}
