import java.util.ArrayList;
import java.util.List;
import java.util.Random;

/** Makes texts at random: plans and formulas, most of them whole, some broken. */
final class TextMaker {
    private static final String[] SORTS = {"truth", "byte", "short", "char", "int", "long", "float", "double"};
    private static final String[] NUMBERS = {"0", "1", "2", "3", "7", "10", "255", "65536", "2147483647", "0l", "1l", "5l",
        "9223372036854775807l", "4294967296l", "0.0", "0.5", "1.5", "2.0", "0.1", "2.5", "3.25", "1p1023", "1p-1074",
        "1.5p-1060", "123456789012345p10", "0.1f", "1f", "0f", "16777217f", "1p127f", "1p-149f", "3.75f", "86400.0",
        "365.2425", "0p1100", "007", "1p0", "45035996273704.5p-1", "9007199254740993l", "1p-1100", "999999999999999p-1089", "1p62", "1p63", "1p31", "300.0"};
    private static final String[] BAD_NUMBERS = {"2147483648", "9223372036854775808l", "1p1024", "1p128f", "1.", "1.5l", "1p2l",
        "1p", "1p-", "1x", "1e5", "1.2.3", "1234567890123456.0", "0p1101", "1ll", "1fl", "5then", "1p-1101", "1p9999999999"};
    private static final String[] TOKENS = {"part", "show", "cam", "bell", "then", "when", "old", "step", "ticks", "floor", "gcd",
        "true", "int", "double", ":", ";", ",", "=", "?", "(", ")", "[", "]", "+", "-", "*", "/", "%", "!", "<", "<=", ">", ">=",
        "==", "!=", "&&", "||", "1", "a", "b", "&", "|", ".", "#", "abcdefghijk", "a1234567890", "thenthenthen"};

    final Random random;
    private final List<String> things = new ArrayList<>();
    private final List<String> cams = new ArrayList<>();
    private List<String> thingsAhead = new ArrayList<>();
    private List<String> camsAhead = new ArrayList<>();
    private int loose = 4;

    TextMaker(Random random) {
        this.random = random;
    }

    /** The latest plan was refused: formulas name what the one before it has. */
    void refused() {
        things.clear();
        things.addAll(thingsAhead);
        cams.clear();
        cams.addAll(camsAhead);
    }

    private boolean rarely(int oneOf) {
        return random.nextInt(oneOf) == 0;
    }

    private String pick(String[] of) {
        return of[random.nextInt(of.length)];
    }

    private String blank() {
        return rarely(12) ? "\n" : rarely(20) ? "\t " : rarely(3) ? "" : " ";
    }

    private String name(List<String> of) {
        if (of.isEmpty() || rarely(150)) return rarely(2) ? "nobody" : "t" + random.nextInt(45);
        return of.get(random.nextInt(of.size()));
    }

    String truth(int depth) {
        if (rarely(200)) return number(depth);
        if (depth <= 0) return rarely(2) ? "true" : "false";
        switch (random.nextInt(9)) {
            case 0:
                return "!" + blank() + unit(truth(depth - 1));
            case 1:
                return unit(truth(depth - 1)) + blank() + "&&" + blank() + unit(truth(depth - 1));
            case 2:
                return unit(truth(depth - 1)) + blank() + "||" + blank() + unit(truth(depth - 1));
            case 3:
                return unit(truth(depth - 1)) + " ? " + truth(depth - 1) + " : " + truth(depth - 1);
            case 4:
                return unit(truth(depth - 1)) + (rarely(2) ? " == " : "!=") + unit(truth(depth - 1));
            case 5:
                return "(truth)" + unit(truth(depth - 1));
            default:
                return number(depth - 1) + blank() + pick(new String[] {"<", "<=", ">", ">=", "==", "!="}) + blank() + unit(number(depth - 1));
        }
    }

    /** Mostly with brackets; without them the ranks of signs decide. */
    private String unit(String e) {
        return rarely(loose) ? e : "(" + e + ")";
    }

    String number(int depth) {
        if (rarely(300)) return truth(depth);
        if (depth <= 0 || rarely(6)) return leaf();
        switch (random.nextInt(11)) {
            case 0:
                return "-" + blank() + unit(number(depth - 1));
            case 1:
                return "(" + SORTS[1 + random.nextInt(7)] + ")" + unit(number(depth - 1));
            case 2:
                return pick(new String[] {"floor", "ceil", "rint", "abs"}) + blank() + "(" + number(depth - 1) + ")";
            case 3:
                return pick(new String[] {"least", "most", "gcd"}) + "(" + number(depth - 1) + blank() + "," + number(depth - 1) + ")";
            case 4:
                return unit(truth(depth - 1)) + " ? " + number(depth - 1) + " : " + number(depth - 1);
            case 5:
                if (cams.isEmpty() && !rarely(30)) return leaf();
                return name(cams) + blank() + "[(int)" + unit(number(depth - 1)) + " % " + (1 + random.nextInt(5)) + "]";
            default:
                return unit(number(depth - 1)) + blank() + pick(new String[] {"+", "-", "*", "/", "%"}) + blank() + unit(number(depth - 1));
        }
    }

    private String leaf() {
        switch (random.nextInt(12)) {
            case 0:
                return "ticks";
            case 1:
                return "step";
            case 2:
            case 3:
            case 4:
                return things.isEmpty() ? "1" : name(things);
            case 5:
                return things.isEmpty() ? "2" : "old" + blank() + "(" + name(things) + ")";
            default:
                return rarely(400) ? pick(BAD_NUMBERS) : pick(NUMBERS);
        }
    }

    private String formula(int sort, int depth) {
        if (sort == 0) return truth(depth);
        String e = number(depth);
        return rarely(15) ? e : "(" + SORTS[sort] + ")(" + e + ")";
    }

    /** Things are t0, t1, ..; truths among them are u0, .., which formulas of numbers do not name. */
    String plan() {
        thingsAhead = new ArrayList<>(things);
        camsAhead = new ArrayList<>(cams);
        things.clear();
        cams.clear();
        loose = rarely(3) ? 4 : 60;
        int many = rarely(12) ? 36 + random.nextInt(8) : random.nextInt(8);
        int depth = many > 20 ? 2 : 1 + random.nextInt(4);
        StringBuilder text = new StringBuilder();
        int bells = 0;
        for (int k = 0; k < many; k++) {
            if (rarely(5)) text.append(cam());
            if (rarely(4)) text.append("bell b").append(bells++).append(" when ").append(truth(depth)).append(';').append(blank());
            int sort = rarely(8) ? 0 : 1 + random.nextInt(7);
            String name = rarely(120) && k > 0 ? "t0" : (sort == 0 ? "u" : "t") + k;
            boolean part = !rarely(4);
            text.append(part ? "part " : "show ").append(name).append(blank()).append(':').append(SORTS[sort]).append('=');
            text.append(formula(sort, depth));
            if (sort != 0) things.add(name);
            if (part) text.append(" then ").append(formula(sort, depth));
            text.append(';').append(blank());
        }
        int last = rarely(25) ? 15 : random.nextInt(3);
        for (int k = 0; k < last; k++) {
            text.append("bell b").append(bells++).append(" when ").append(truth(depth)).append(';');
        }
        if (rarely(30)) for (int k = 0; k < 9; k++) text.append(cam());
        return broken(text.toString());
    }

    private String cam() {
        String name = "c" + cams.size();
        StringBuilder text = new StringBuilder("cam " + name + "=");
        int teeth = rarely(30) ? 23 + random.nextInt(4) : 1 + random.nextInt(5);
        for (int k = 0; k < teeth; k++) {
            text.append(k == 0 ? "" : ",").append(blank()).append(rarely(4) ? "-" : "").append(teeth > 20 ? "1" : pick(NUMBERS));
        }
        cams.add(name);
        return text.append(";").toString();
    }

    String asked(boolean truth) {
        int depth = 1 + random.nextInt(5);
        loose = rarely(2) ? 4 : 60;
        return broken(truth ? truth(depth) : number(depth));
    }

    /** Many signs or many brackets, round about what is too much. */
    String large() {
        int many = rarely(2) ? 246 + random.nextInt(8) : 36 + random.nextInt(8);
        StringBuilder text = new StringBuilder();
        if (many > 100) {
            for (int k = 0; k < many; k++) text.append(k == 0 ? "" : "+").append("1");
            return broken(text.toString());
        }
        String[] ahead = {"(", "-", "!", "(int)", "abs(", "true?1:", "1+(", "1||1&&1==1<1+1*(", "(1)+-(", "-1+(", "true?(", "least(1,", "c[", "!true?2:"};
        String[] behind = {")", "", "", "", ")", "", ")", ")", ")", ")", "):2", ")", "]", ""};
        StringBuilder close = new StringBuilder();
        for (int k = 0; k < many; k++) {
            int which = random.nextInt(ahead.length);
            text.append(ahead[which]);
            close.insert(0, behind[which]);
        }
        return broken(text + (rarely(3) ? "old(a)" : "1") + close);
    }

    String broken(String text) {
        if (!rarely(4)) return text;
        int times = 1 + random.nextInt(2);
        for (int k = 0; k < times; k++) {
            int at = text.isEmpty() ? 0 : random.nextInt(text.length());
            switch (random.nextInt(6)) {
                case 0:
                    text = text.substring(0, at);
                    break;
                case 1:
                    text = text.substring(0, at) + pick(TOKENS) + text.substring(at);
                    break;
                case 2:
                    text = text.substring(0, at) + " " + pick(TOKENS) + " " + text.substring(at);
                    break;
                case 3:
                    text = text.isEmpty() ? text : text.substring(0, at) + text.substring(at + 1);
                    break;
                case 4:
                    text = text.substring(0, at) + (char) random.nextInt(256) + text.substring(at);
                    break;
                default:
                    text = text.substring(0, at) + pick(BAD_NUMBERS) + text.substring(at);
            }
        }
        return text;
    }
}
