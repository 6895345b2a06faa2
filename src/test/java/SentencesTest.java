import java.util.BitSet;

/** Each sentence of the document's "Terms" and promises is quoted by a test of its own: what none quotes is told here. */
public final class SentencesTest {
    /** What tells no more than where things stand: headings, the frames of texts, the signatures that FaceTest reads. */
    private static final String[] NO_SENTENCES = {"## Terms", "```text", "```", "==== 2. TEXTS.", "==== 3. WORKING.", "NUMBERS.", "## Promise \\d+: [A-Za-z ]+?(?= `)", "`[a-z]+ [a-z]+\\([a-z ,]*\\)`:",
        "Ahead of the calls .*? the interface says: ---- [a-z ]+\\."};

    private static void cover(BitSet covered, int from, int to) {
        if (to > from) covered.set(from, to);
    }

    public static void main(String[] args) {
        EdgesOfNumbersTest.run();
        EdgesOfTokensTest.run();
        EdgesOfFaultsTest.run();
        EdgesOfWorkingTest.run();
        EdgesOfCallsTest.run();
        EdgesOfDeskTest.run();
        Check.endSentence();
        String document = Check.document();
        int from = document.indexOf("## Terms");
        int to = document.indexOf("## Not promised");
        BitSet covered = new BitSet();
        for (String quote : Check.QUOTED) {
            int at = document.indexOf(quote);
            if (at >= 0) cover(covered, at, at + quote.length());
        }
        for (String pattern : NO_SENTENCES) {
            java.util.regex.Matcher m = java.util.regex.Pattern.compile(pattern).matcher(document);
            while (m.find()) cover(covered, m.start(), m.end());
        }
        for (int at = covered.nextClearBit(from); at < to; at = covered.nextClearBit(at)) {
            int next = covered.nextSetBit(at);
            if (next < 0 || next > to) next = to;
            String left = document.substring(at, next).trim();
            Check.due("what no test quotes", left, "");
            at = next;
        }
        Check.due("there are sentences", Check.QUOTED.size() > 100, true);
        Check.close("SentencesTest");
    }
}
