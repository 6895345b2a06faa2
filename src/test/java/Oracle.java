import java.math.BigInteger;
import java.util.ArrayList;
import java.util.HashMap;
import java.util.List;
import java.util.Map;
import java.util.regex.Matcher;
import java.util.regex.Pattern;

/**
 * The document read a second time, by other means (a descent by the grammar, a tree, boxed values, Java's own
 * functions), so that TurningHall can be compared with it call by call. It is written for plainness alone.
 */
final class Oracle {
    static final class Fault extends RuntimeException {
        final int kind;
        final int place;

        Fault(int kind, int place) {
            super(null, null, false, false);
            this.kind = kind;
            this.place = place;
        }
    }

    static final class Jam extends RuntimeException {
        final int kind;
        final int place;

        Jam(int kind, int place) {
            super(null, null, false, false);
            this.kind = kind;
            this.place = place;
        }
    }

    record Token(String kind, String text, int place, Object number) { }

    static final class Node {
        final String op;
        final int place;
        final List<Node> kids = new ArrayList<>();
        String name;
        int namePlace;
        Object number;
        int sort;
        int ref;

        Node(String op, int place, Node... parts) {
            this.op = op;
            this.place = place;
            kids.addAll(List.of(parts));
        }
    }

    static final class Decl {
        char kind;
        String name;
        int place;
        int sort;
        boolean part;
        int beginPlace;
        Node begin;
        int turnPlace;
        Node turn;
        List<Double> teeth = new ArrayList<>();
    }

    static final class Values {
        List<Object> now = new ArrayList<>();
        List<Object> old = new ArrayList<>();
        List<List<Object>> pasts = new ArrayList<>();
        Map<Integer, int[]> jams = new HashMap<>();
        Map<Integer, Integer> counts = new HashMap<>();
        List<long[]> strikes = new ArrayList<>();
        long ticks;
        double step = 1.0;
        Object plan;

        Values copy() {
            Values v = new Values();
            v.now.addAll(now);
            v.old.addAll(old);
            for (List<Object> p : pasts) v.pasts.add(new ArrayList<>(p));
            for (Map.Entry<Integer, int[]> e : jams.entrySet()) v.jams.put(e.getKey(), e.getValue().clone());
            v.counts.putAll(counts);
            v.strikes.addAll(strikes);
            v.ticks = ticks;
            v.step = step;
            v.plan = plan;
            return v;
        }
    }

    static final List<String> WORDS = List.of("part show cam bell then when old step ticks floor ceil rint abs least most gcd true false truth byte short char int long float double".split(" "));
    static final List<String> SORTS = List.of("truth", "byte", "short", "char", "int", "long", "float", "double");
    static final Pattern NUMBER = Pattern.compile("([0-9]+)(?:\\.([0-9]+))?(?:p(-?[0-9]+))?([lf]?)");
    static final Pattern RUN = Pattern.compile("[a-zA-Z][a-zA-Z0-9]*");
    static final Pattern SIGN = Pattern.compile("<=|>=|==|!=|&&|\\|\\||[:;,=?()\\[\\]+*/%!<>-]");

    StringBuilder tape = new StringBuilder();
    List<Decl> decls = new ArrayList<>();
    int nodes;
    int faultKind;
    Values v = new Values();
    Values[] kept = new Values[4];
    long toldBits;
    String text = "";
    int[] wheels = new int[0];

    Oracle() {
        v.plan = decls;
    }

    // ---- reading

    String src;
    int at;
    Token tok;
    int nest;
    int counted;
    List<Integer> tooMuch;

    void next() {
        while (at < src.length() && "\t\n ".indexOf(src.charAt(at)) >= 0) at++;
        if (at >= src.length()) {
            tok = new Token("end", "", src.length(), null);
            return;
        }
        Matcher m = RUN.matcher(src).region(at, src.length());
        if (m.lookingAt()) {
            String w = m.group();
            if (w.length() > 10) {
                tok = new Token("bad", w, at + 10, null);
            } else {
                tok = new Token(WORDS.contains(w) ? w : "name", w, at, null);
            }
            at = m.end();
            return;
        }
        m = NUMBER.matcher(src).region(at, src.length());
        if (m.lookingAt()) {
            Object value = number(m);
            String rest = src.substring(m.end());
            if (value == null || !rest.isEmpty() && rest.substring(0, 1).matches("[0-9a-zA-Z.]")) {
                tok = new Token("bad", "", at, null);
            } else {
                tok = new Token("number", m.group(), at, value);
            }
            at = m.end();
            return;
        }
        m = SIGN.matcher(src).region(at, src.length());
        if (m.lookingAt()) {
            tok = new Token(m.group(), m.group(), at, null);
            at = m.end();
            return;
        }
        tok = new Token("bad", "", at, null);
        at++;
    }

    static Object number(Matcher m) {
        String whole = m.group(1);
        String behind = m.group(2);
        String power = m.group(3);
        String tail = m.group(4);
        if (behind == null && power == null && !tail.equals("f")) {
            BigInteger b = new BigInteger(whole);
            if (tail.equals("l")) {
                return b.bitLength() <= 63 ? (Object) b.longValue() : null;
            }
            return b.bitLength() <= 31 ? (Object) b.intValue() : null;
        }
        if (tail.equals("l")) return null;
        String digits = whole + (behind == null ? "" : behind);
        if (digits.length() > 15) return null;
        double d = (double) Long.parseLong(digits);
        d = d / Math.pow(10, behind == null ? 0 : behind.length());
        if (power != null) {
            BigInteger p = new BigInteger(power);
            if (p.abs().compareTo(BigInteger.valueOf(1100)) > 0) return null;
            d = Math.scalb(d, p.intValue());
        }
        if (tail.equals("f")) {
            float f = (float) d;
            return Float.isInfinite(f) ? null : (Object) f;
        }
        return Double.isInfinite(d) ? null : (Object) d;
    }

    Token take(String kind) {
        if (!tok.kind().equals(kind)) throw new Fault(1, tok.place());
        Token t = tok;
        next();
        return t;
    }

    boolean is(String... kinds) {
        for (String k : kinds) if (tok.kind().equals(k)) return true;
        return false;
    }

    void node(int place) {
        counted++;
        if (counted > 500) tooMuch.add(place);
    }

    void inside(int place) {
        if (nest >= 40) throw new Fault(1, place);
        nest++;
    }

    Node e() {
        Node c = o();
        if (!is("?")) return c;
        int place = tok.place();
        inside(place);
        node(place);
        next();
        Node a = e();
        take(":");
        Node b = e();
        nest--;
        return new Node("?", place, c, a, b);
    }

    Node o() {
        Node l = a();
        while (is("||")) l = two(l, 2);
        return l;
    }

    Node a() {
        Node l = q();
        while (is("&&")) l = two(l, 3);
        return l;
    }

    Node q() {
        Node l = r();
        return is("==", "!=") ? two(l, 4) : l;
    }

    Node r() {
        Node l = s();
        return is("<", "<=", ">", ">=") ? two(l, 5) : l;
    }

    Node s() {
        Node l = t();
        while (is("+", "-")) l = two(l, 6);
        return l;
    }

    Node t() {
        Node l = u();
        while (is("*", "/", "%")) l = two(l, 7);
        return l;
    }

    Node two(Node left, int level) {
        Token sign = tok;
        node(sign.place());
        next();
        Node right = switch (level) {
            case 2 -> a();
            case 3 -> q();
            case 4 -> r();
            case 5 -> s();
            case 6 -> t();
            default -> u();
        };
        return new Node(sign.kind(), sign.place(), left, right);
    }

    Node u() {
        int place = tok.place();
        if (is("-", "!")) {
            String op = is("-") ? "neg" : "!";
            inside(place);
            node(place);
            next();
            Node n = new Node(op, place, u());
            nest--;
            return n;
        }
        if (is("(")) {
            inside(place);
            next();
            if (SORTS.contains(tok.kind())) {
                int sort = SORTS.indexOf(tok.kind());
                node(place);
                next();
                take(")");
                Node n = new Node("cast", place, u());
                n.ref = sort;
                nest--;
                return n;
            }
            Node n = e();
            take(")");
            nest--;
            return n;
        }
        return p();
    }

    Node p() {
        int place = tok.place();
        if (is("number")) {
            node(place);
            Node n = new Node("number", place);
            n.number = tok.number();
            next();
            return n;
        }
        if (is("true", "false")) {
            node(place);
            Node n = new Node("number", place);
            n.number = is("true");
            next();
            return n;
        }
        if (is("ticks", "step")) {
            node(place);
            return new Node(take(tok.kind()).kind(), place);
        }
        if (is("name")) {
            node(place);
            String name = take("name").text();
            Node n;
            if (is("[")) {
                int square = tok.place();
                inside(square);
                next();
                n = new Node("[", square, e());
                take("]");
                nest--;
            } else {
                n = new Node("thing", place);
            }
            n.name = name;
            n.namePlace = place;
            return n;
        }
        if (is("old")) {
            node(place);
            next();
            if (is("(")) inside(tok.place());
            take("(");
            Node n = new Node("old", place);
            n.namePlace = tok.place();
            n.name = take("name").text();
            take(")");
            nest--;
            return n;
        }
        if (is("floor", "ceil", "rint", "abs", "least", "most", "gcd")) {
            node(place);
            String f = take(tok.kind()).kind();
            if (is("(")) inside(tok.place());
            take("(");
            Node n = new Node(f, place, e());
            if (f.equals("least") || f.equals("most") || f.equals("gcd")) {
                take(",");
                n.kids.add(e());
            }
            take(")");
            nest--;
            return n;
        }
        throw new Fault(1, place);
    }

    void begin(String source) {
        src = source;
        at = 0;
        nest = 0;
        counted = 0;
        tooMuch = new ArrayList<>();
        next();
    }

    Decl decl() {
        Decl d = new Decl();
        String kind = tok.kind();
        if (!is("part", "show", "cam", "bell")) throw new Fault(1, tok.place());
        d.kind = kind.equals("cam") ? 'c' : kind.equals("bell") ? 'b' : 't';
        d.part = kind.equals("part");
        next();
        d.place = tok.place();
        d.name = take("name").text();
        int same = 0;
        for (Decl x : reading) same += x.kind == d.kind ? 1 : 0;
        if (same >= (d.kind == 't' ? 40 : d.kind == 'b' ? 12 : 8)) tooMuch.add(d.place);
        if (d.kind == 't') {
            take(":");
            d.sort = SORTS.indexOf(tok.kind());
            if (d.sort < 0) throw new Fault(1, tok.place());
            next();
            d.beginPlace = take("=").place();
            d.begin = e();
            d.turn = d.begin;
            if (d.part) {
                d.turnPlace = take("then").place();
                d.turn = e();
            }
        } else if (d.kind == 'b') {
            d.turnPlace = take("when").place();
            d.turn = e();
        } else {
            take("=");
            while (true) {
                boolean minus = is("-");
                if (minus) next();
                if (is("number") && d.teeth.size() >= 24) tooMuch.add(tok.place());
                double x = ((Number) take("number").number()).doubleValue();
                d.teeth.add(minus ? -x : x);
                if (!is(",")) break;
                next();
            }
        }
        take(";");
        return d;
    }

    List<Decl> reading;

    static List<Decl> of(List<Decl> all, char kind) {
        List<Decl> r = new ArrayList<>();
        for (Decl d : all) if (d.kind == kind) r.add(d);
        return r;
    }

    static void least(List<Integer> places, int kind) {
        if (!places.isEmpty()) throw new Fault(kind, places.stream().min(Integer::compare).get());
    }

    /** Names are looked for in those that are given; faults are gathered. */
    void names(Node n, List<Decl> known, List<Decl> all, List<Integer> faults) {
        if (n.name != null) {
            char kind = n.op.equals("[") ? 'c' : 't';
            boolean found = false;
            for (Decl d : known) found |= d.kind == kind && d.name.equals(n.name);
            if (!found) faults.add(n.namePlace);
            List<Decl> like = of(all, kind);
            for (int i = like.size() - 1; i >= 0; i--) if (like.get(i).name.equals(n.name)) n.ref = i;
        }
        for (Node k : n.kids) names(k, known, all, faults);
    }

    void sorts(Node n, List<Decl> all) {
        for (Node k : n.kids) sorts(k, all);
        int a = n.kids.size() > 0 ? n.kids.get(0).sort : -1;
        int b = n.kids.size() > 1 ? n.kids.get(1).sort : -1;
        boolean ok = true;
        switch (n.op) {
            case "number" -> n.sort = sortOf(n.number);
            case "ticks" -> n.sort = 5;
            case "step" -> n.sort = 7;
            case "thing", "old" -> n.sort = of(all, 't').get(n.ref).sort;
            case "[" -> {
                ok = a == 1 || a == 2 || a == 3 || a == 4;
                n.sort = 7;
            }
            case "neg" -> {
                ok = a != 0;
                n.sort = a < 4 ? 4 : a;
            }
            case "!" -> {
                ok = a == 0;
                n.sort = 0;
            }
            case "cast" -> {
                ok = a == 0 ? n.ref == 0 : n.ref != 0;
                n.sort = n.ref;
            }
            case "floor", "ceil", "rint", "abs" -> {
                ok = a != 0;
                n.sort = 7;
            }
            case "gcd" -> {
                ok = a != 0 && b != 0;
                n.sort = 7;
            }
            case "least", "most", "+", "-", "*", "/", "%" -> {
                ok = a != 0 && b != 0;
                n.sort = join(a, b);
            }
            case "<", "<=", ">", ">=" -> {
                ok = a != 0 && b != 0;
                n.sort = 0;
            }
            case "==", "!=" -> {
                ok = (a == 0) == (b == 0);
                n.sort = 0;
            }
            case "&&", "||" -> {
                ok = a == 0 && b == 0;
                n.sort = 0;
            }
            case "?" -> {
                int c = n.kids.get(2).sort;
                ok = a == 0 && (b == 0) == (c == 0);
                n.sort = b == 0 ? 0 : join(b, c);
            }
            default -> throw new IllegalStateException(n.op);
        }
        if (!ok) throw new Fault(4, n.place);
    }

    static int join(int a, int b) {
        if (a == 7 || b == 7) return 7;
        if (a == 6 || b == 6) return 6;
        if (a == 5 || b == 5) return 5;
        return 4;
    }

    static boolean gets(int thing, int e) {
        return switch (thing) {
            case 0 -> e == 0;
            case 1 -> e == 1;
            case 2 -> e == 1 || e == 2;
            case 3 -> e == 3;
            case 4 -> e >= 1 && e <= 4;
            case 5 -> e >= 1 && e <= 5;
            case 6 -> e >= 1 && e <= 6;
            default -> e >= 1;
        };
    }

    static int sortOf(Object x) {
        if (x instanceof Boolean) return 0;
        if (x instanceof Byte) return 1;
        if (x instanceof Short) return 2;
        if (x instanceof Character) return 3;
        if (x instanceof Integer) return 4;
        if (x instanceof Long) return 5;
        return x instanceof Float ? 6 : 7;
    }

    int plan() {
        String source = tape.toString();
        tape.setLength(0);
        try {
            begin(source);
            reading = new ArrayList<>();
            while (!is("end")) reading.add(decl());
            least(tooMuch, 2);
            List<Integer> faults = new ArrayList<>();
            for (int i = 0; i < reading.size(); i++) {
                Decl d = reading.get(i);
                for (int k = 0; k < i; k++) if (reading.get(k).name.equals(d.name)) faults.add(d.place);
                if (d.begin != null) names(d.begin, reading.subList(0, i), reading, faults);
                if (d.turn != null && d.turn != d.begin) names(d.turn, reading, reading, faults);
            }
            least(faults, 3);
            for (Decl d : reading) {
                if (d.begin != null) {
                    sorts(d.begin, reading);
                    if (!gets(d.sort, d.begin.sort)) throw new Fault(4, d.beginPlace);
                }
                if (d.turn != null && d.turn != d.begin) {
                    sorts(d.turn, reading);
                    if (!gets(d.kind == 'b' ? 0 : d.sort, d.turn.sort)) throw new Fault(4, d.turnPlace);
                }
            }
        } catch (Fault f) {
            faultKind = f.kind;
            return -1 - f.place;
        }
        faultKind = 0;
        decls = reading;
        nodes = counted;
        double step = v.step;
        v = new Values();
        v.step = step;
        v.plan = decls;
        List<Decl> things = of(decls, 't');
        for (int i = 0; i < things.size(); i++) {
            Decl d = things.get(i);
            Object x;
            try {
                x = to(eval(d.begin), d.sort, 0);
            } catch (Jam j) {
                jam(i, j);
                x = to(d.sort == 0 ? (Object) false : (Object) 0, d.sort, 0);
            }
            v.now.add(x);
            v.old.add(x);
        }
        return things.size();
    }

    void jam(int row, Jam j) {
        int[] had = v.jams.getOrDefault(row, new int[3]);
        v.jams.put(row, new int[] {had[0] + 1, j.kind, j.place});
    }

    // ---- working

    static Object to(Object x, int sort, int place) {
        int from = sortOf(x);
        if (from == sort) return x;
        if (x instanceof Character c) x = (int) c;
        Number n = (Number) x;
        boolean real = from >= 6;
        switch (sort) {
            case 1:
                return real ? (byte) n.intValue() : (byte) n.longValue();
            case 2:
                return real ? (short) n.intValue() : (short) n.longValue();
            case 3:
                return real ? (char) n.intValue() : (char) n.longValue();
            case 4:
                return real ? n.intValue() : (int) n.longValue();
            case 5:
                return n.longValue();
            case 6:
                float f = n.floatValue();
                if (Float.isInfinite(f)) throw new Jam(3, place);
                return f;
            default:
                return n.doubleValue();
        }
    }

    static double finite(double d, int place) {
        if (Double.isInfinite(d) || Double.isNaN(d)) throw new Jam(3, place);
        return d;
    }

    static float finite(float d, int place) {
        if (Float.isInfinite(d) || Float.isNaN(d)) throw new Jam(3, place);
        return d;
    }

    static double gcd(double a, double b) {
        a = Math.abs(a);
        b = Math.abs(b);
        while (b != 0) {
            double c = a % b;
            a = b;
            b = c;
        }
        return a;
    }

    Object eval(Node n) {
        switch (n.op) {
            case "number":
                return n.number;
            case "ticks":
                return v.ticks;
            case "step":
                return v.step;
            case "thing":
                return v.now.get(n.ref);
            case "old":
                return v.old.get(n.ref);
            case "&&":
                return (Boolean) eval(n.kids.get(0)) && (Boolean) eval(n.kids.get(1));
            case "||":
                return (Boolean) eval(n.kids.get(0)) || (Boolean) eval(n.kids.get(1));
            case "?": {
                Object x = eval(n.kids.get((Boolean) eval(n.kids.get(0)) ? 1 : 2));
                return to(x, n.sort, n.place);
            }
            default:
                break;
        }
        Object x = eval(n.kids.get(0));
        if (n.kids.size() == 1) return one(n, x);
        Object y = eval(n.kids.get(1));
        int sort = n.op.equals("gcd") ? 7 : n.kids.get(0).sort == 0 ? 0 : join(n.kids.get(0).sort, n.kids.get(1).sort);
        x = to(x, sort, n.place);
        y = to(y, sort, n.place);
        return switch (sort) {
            case 0 -> x.equals(y) == n.op.equals("==");
            case 4 -> ints(n, (Integer) x, (Integer) y);
            case 5 -> longs(n, (Long) x, (Long) y);
            case 6 -> floats(n, (Float) x, (Float) y);
            default -> doubles(n, (Double) x, (Double) y);
        };
    }

    Object one(Node n, Object x) {
        switch (n.op) {
            case "[": {
                int i = (Integer) to(x, 4, 0);
                List<Double> teeth = of(decls, 'c').get(n.ref).teeth;
                if (i < 0 || i >= teeth.size()) throw new Jam(4, n.place);
                return teeth.get(i);
            }
            case "neg": {
                Object y = to(x, n.sort, n.place);
                if (y instanceof Integer i) return -i;
                if (y instanceof Long l) return -l;
                if (y instanceof Float f) return -f;
                return -(Double) y;
            }
            case "!":
                return !(Boolean) x;
            case "cast":
                return to(x, n.ref, n.place);
            default: {
                double d = (Double) to(x, 7, n.place);
                return switch (n.op) {
                    case "floor" -> Math.floor(d);
                    case "ceil" -> Math.ceil(d);
                    case "rint" -> Math.rint(d);
                    default -> Math.abs(d);
                };
            }
        }
    }

    static Object ints(Node n, int x, int y) {
        if (y == 0 && (n.op.equals("/") || n.op.equals("%"))) throw new Jam(1, n.place);
        return switch (n.op) {
            case "+" -> x + y;
            case "-" -> x - y;
            case "*" -> x * y;
            case "/" -> x / y;
            case "%" -> x % y;
            case "least" -> Math.min(x, y);
            case "most" -> Math.max(x, y);
            case "<" -> x < y;
            case "<=" -> x <= y;
            case ">" -> x > y;
            case ">=" -> x >= y;
            case "==" -> x == y;
            default -> x != y;
        };
    }

    static Object longs(Node n, long x, long y) {
        if (y == 0 && (n.op.equals("/") || n.op.equals("%"))) throw new Jam(1, n.place);
        return switch (n.op) {
            case "+" -> x + y;
            case "-" -> x - y;
            case "*" -> x * y;
            case "/" -> x / y;
            case "%" -> x % y;
            case "least" -> Math.min(x, y);
            case "most" -> Math.max(x, y);
            case "<" -> x < y;
            case "<=" -> x <= y;
            case ">" -> x > y;
            case ">=" -> x >= y;
            case "==" -> x == y;
            default -> x != y;
        };
    }

    static Object floats(Node n, float x, float y) {
        if (y == 0 && (n.op.equals("/") || n.op.equals("%"))) throw new Jam(2, n.place);
        return switch (n.op) {
            case "+" -> finite(x + y, n.place);
            case "-" -> finite(x - y, n.place);
            case "*" -> finite(x * y, n.place);
            case "/" -> finite(x / y, n.place);
            case "%" -> x % y;
            case "least" -> Math.min(x, y);
            case "most" -> Math.max(x, y);
            case "<" -> x < y;
            case "<=" -> x <= y;
            case ">" -> x > y;
            case ">=" -> x >= y;
            case "==" -> x == y;
            default -> x != y;
        };
    }

    static Object doubles(Node n, double x, double y) {
        if (y == 0 && (n.op.equals("/") || n.op.equals("%"))) throw new Jam(2, n.place);
        return switch (n.op) {
            case "+" -> finite(x + y, n.place);
            case "-" -> finite(x - y, n.place);
            case "*" -> finite(x * y, n.place);
            case "/" -> finite(x / y, n.place);
            case "%" -> x % y;
            case "gcd" -> gcd(x, y);
            case "least" -> Math.min(x, y);
            case "most" -> Math.max(x, y);
            case "<" -> x < y;
            case "<=" -> x <= y;
            case ">" -> x > y;
            case ">=" -> x >= y;
            case "==" -> x == y;
            default -> x != y;
        };
    }

    void turn() {
        v.ticks++;
        v.old = new ArrayList<>(v.now);
        v.pasts.add(0, new ArrayList<>(v.now));
        if (v.pasts.size() > 31) v.pasts.remove(31);
        int thing = 0;
        int bell = 0;
        for (Decl d : decls) {
            if (d.kind == 'c') continue;
            int row = d.kind == 't' ? thing : 100 + bell;
            try {
                Object x = eval(d.turn);
                if (d.kind == 't') {
                    v.now.set(row, to(x, d.sort, 0));
                } else if ((Boolean) x) {
                    v.counts.merge(bell, 1, Integer::sum);
                    v.strikes.add(0, new long[] {v.ticks, bell});
                    if (v.strikes.size() > 64) v.strikes.remove(64);
                }
            } catch (Jam j) {
                jam(row, j);
            }
            if (d.kind == 't') thing++;
            else bell++;
        }
    }

    static long bits(Object x) {
        if (x instanceof Boolean b) return b ? 1 : 0;
        if (x instanceof Character c) return c;
        if (x instanceof Float f) return Float.floatToRawIntBits(f);
        if (x instanceof Double d) return Double.doubleToRawLongBits(d);
        return ((Number) x).longValue();
    }

    // ---- the face

    int feed(int... five) {
        if (tape.length() + 20 > 3000) return -1;
        for (int x : five) for (int s = 24; s >= 0; s -= 8) tape.append((char) (x >>> s & 255));
        return tape.length();
    }

    int end(int n) {
        if (n < 0 || n > tape.length()) return -1;
        tape.setLength(n);
        return n;
    }

    int fault() {
        return faultKind;
    }

    int count(int what) {
        return switch (what) {
            case 0 -> of(decls, 't').size();
            case 1 -> of(decls, 'b').size();
            case 2 -> of(decls, 'c').size();
            case 3 -> nodes;
            case 4 -> tape.length();
            case 5 -> v.strikes.size();
            case 6 -> text.length();
            case 7 -> wheels.length;
            default -> -1;
        };
    }

    Decl row(int i) {
        List<Decl> like = of(decls, i < 100 ? 't' : i < 200 ? 'b' : 'c');
        int k = i < 0 ? -1 : i < 100 ? i : i < 200 ? i - 100 : i - 200;
        return k >= 0 && k < like.size() ? like.get(k) : null;
    }

    int thing(int i, int what) {
        Decl d = row(i);
        if (d == null || d.kind == 'c') return -1;
        int[] jams = v.jams.getOrDefault(i, new int[] {0, 0, -1});
        if (what >= 2 && what <= 5) return what == 2 ? d.name.length() : jams[what - 3];
        if (d.kind == 'b') return what == 6 ? v.counts.getOrDefault(i - 100, 0) : -1;
        return what == 0 ? d.sort : what == 1 ? (d.part ? 1 : 0) : -1;
    }

    int letter(int i, int k) {
        Decl d = row(i);
        return d == null || k < 0 || k >= d.name.length() ? -1 : d.name.charAt(k);
    }

    long value(int i, int ago) {
        if (i < 0 || i >= v.now.size() || ago < 0 || ago > 31) return 0;
        if (ago == 0) return bits(v.now.get(i));
        return ago > v.pasts.size() ? 0 : bits(v.pasts.get(ago - 1).get(i));
    }

    boolean set(int i, long bits) {
        Decl d = i >= 100 ? null : row(i);
        if (d == null || !d.part) return false;
        Object x = switch (d.sort) {
            case 0 -> (bits & 1) != 0;
            case 1 -> (byte) bits;
            case 2 -> (short) bits;
            case 3 -> (char) bits;
            case 4 -> (int) bits;
            case 5 -> bits;
            case 6 -> Float.intBitsToFloat((int) bits);
            default -> Double.longBitsToDouble(bits);
        };
        if (x instanceof Float f && !Float.isFinite(f) || x instanceof Double g && !Double.isFinite(g)) return false;
        v.now.set(i, x);
        v.old.set(i, x);
        return true;
    }

    boolean step(long bits) {
        double d = Double.longBitsToDouble(bits);
        if (!Double.isFinite(d)) return false;
        v.step = d;
        return true;
    }

    long tick(int n) {
        if (n < 0 || n > 500) return -1;
        for (int k = 0; k < n; k++) turn();
        return v.ticks;
    }

    long strike(int k, int what) {
        return k < 0 || k >= v.strikes.size() || what < 0 || what > 1 ? -1 : v.strikes.get(k)[what];
    }

    Node asked(boolean truth) {
        String source = tape.toString();
        tape.setLength(0);
        begin(source);
        Node n = e();
        if (!is("end")) throw new Fault(1, tok.place());
        least(tooMuch, 2);
        List<Integer> faults = new ArrayList<>();
        names(n, decls, decls, faults);
        least(faults, 3);
        sorts(n, decls);
        if (truth && n.sort != 0) throw new Fault(4, 0);
        faultKind = 0;
        return n;
    }

    int ask() {
        try {
            Node n = asked(false);
            toldBits = bits(eval(n));
            return n.sort;
        } catch (Fault f) {
            faultKind = f.kind;
            return -1 - f.place;
        } catch (Jam j) {
            return 8 + j.kind;
        }
    }

    long told() {
        return toldBits;
    }

    int await(int n) {
        if (n < 0 || n > 500) {
            tape.setLength(0);
            return -1;
        }
        try {
            Node e = asked(true);
            int done = 0;
            while (true) {
                if ((Boolean) eval(e)) return done;
                if (done == n) return -2;
                turn();
                done++;
            }
        } catch (Fault f) {
            faultKind = f.kind;
            return -1;
        } catch (Jam j) {
            return -3;
        }
    }

    static String dialText(double x, int digits) {
        StringBuilder s = new StringBuilder(x < 0 ? "-" : "");
        s.append((long) Math.abs(x));
        if (digits > 0) s.append('.');
        double r = Math.abs(x) % 1.0;
        for (int k = 0; k < digits; k++) {
            r = r * 10;
            s.append((int) r);
            r = r - (int) r;
        }
        return s.toString();
    }

    int dial(long bits, int digits) {
        double x = Double.longBitsToDouble(bits);
        if (!Double.isFinite(x) || digits < 0 || digits > 18) return -1;
        text = dialText(x, digits);
        return text.length();
    }

    int clock(long bits) {
        double x = Double.longBitsToDouble(bits);
        if (!Double.isFinite(x)) return -1;
        double d = Math.floor(x / 86400.0);
        double s = x % 86400.0;
        if (s < 0) {
            s += 86400.0;
            if (s == 86400.0) s = 0.0;
        }
        int i = (int) s;
        text = dialText(d, 0) + String.format(" %02d:%02d:%02d", i / 3600, i / 60 % 60, i % 60);
        return text.length();
    }

    int octet(int k) {
        return k < 0 || k >= text.length() ? -1 : text.charAt(k);
    }

    long measure(long a, long b) {
        double x = Double.longBitsToDouble(a);
        double y = Double.longBitsToDouble(b);
        return Double.isFinite(x) && Double.isFinite(y) ? Double.doubleToRawLongBits(gcd(x, y)) : -1;
    }

    long together(long a, long b) {
        double x = Double.longBitsToDouble(a);
        double y = Double.longBitsToDouble(b);
        if (!(x > 0 && y > 0 && Double.isFinite(x) && Double.isFinite(y))) return -1;
        double m = x * (y / gcd(x, y));
        return Double.isFinite(m) ? Double.doubleToRawLongBits(m) : -1;
    }

    long train(long t, int stages, int low, int high) {
        double aim = Double.longBitsToDouble(t);
        if (!(aim > 0) || !Double.isFinite(aim) || stages < 1 || stages > 2) return -1;
        if (low < 4 || high < low || high > low + 30L || high > 200) return -1;
        double best = Double.POSITIVE_INFINITY;
        int[] row = new int[2 * stages];
        for (int a = low; a <= high; a++) {
            for (int b = low; b <= high; b++) {
                double first = (double) a / b;
                if (stages == 1) {
                    double far = Math.abs(first - aim);
                    if (far < best) {
                        best = far;
                        row = new int[] {a, b};
                    }
                    continue;
                }
                for (int c = low; c <= high; c++) {
                    for (int d = low; d <= high; d++) {
                        double far = Math.abs(first * ((double) c / d) - aim);
                        if (far < best) {
                            best = far;
                            row = new int[] {a, b, c, d};
                        }
                    }
                }
            }
        }
        wheels = row;
        return Double.doubleToRawLongBits(best);
    }

    int wheel(int k) {
        return k < 0 || k >= wheels.length ? 0 : wheels[k];
    }

    int date(long bits, int what) {
        double x = Math.floor(Double.longBitsToDouble(bits));
        if (!Double.isFinite(x) || x < -1e8 || x > 1e8) return -1000000000;
        java.time.LocalDate d = java.time.LocalDate.ofEpochDay((long) x);
        return switch (what) {
            case 0 -> d.getYear();
            case 1 -> d.getMonthValue();
            case 2 -> d.getDayOfMonth();
            case 3 -> d.getDayOfWeek().getValue() - 1;
            case 4 -> d.getDayOfYear();
            default -> -1000000000;
        };
    }

    boolean keep(int place) {
        if (place < 0 || place > 3) return false;
        kept[place] = v.copy();
        return true;
    }

    boolean back(int place) {
        if (place < 0 || place > 3 || kept[place] == null || kept[place].plan != v.plan) return false;
        v = kept[place].copy();
        return true;
    }
}
