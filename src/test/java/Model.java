import java.util.ArrayList;
import java.util.List;
import java.util.TreeSet;

/** The document again, as plainly as Java allows: lists, texts, exceptions, nothing kept that can be computed. */
final class Model {
    static final int BAD = -1, NONE = -2, FULL = -3;

    private record Term(int kind, int n, int x, String type, List<Integer> parts) { }

    private record Bound(int letter, String type, Bound outer) { }

    /** An answer below 0 that undoes the call. */
    private static final class Refusal extends RuntimeException {
        final int answer;

        Refusal(int answer) {
            super(null, null, false, false);
            this.answer = answer;
        }
    }

    private interface Call {
        int answer();
    }

    private List<String> types = new ArrayList<>(List.of("i"));
    private List<Term> terms = new ArrayList<>();
    private final String[] declared = new String[26];
    private String tape = "";
    private String print = "";
    private int fault = 0, faultAt = NONE, ran = 0;
    private int place;

    private int undoing(Call call) {
        List<String> oldTypes = new ArrayList<>(types);
        List<Term> oldTerms = new ArrayList<>(terms);
        try {
            return call.answer();
        } catch (Refusal refusal) {
            types = oldTypes;
            terms = oldTerms;
            return refusal.answer;
        }
    }

    private boolean isTerm(int t) {
        return 0 <= t && t < terms.size();
    }

    private boolean isType(int type) {
        return 0 <= type && type < types.size();
    }

    private static boolean isLetter(int x) {
        return 0 <= x && x <= 25;
    }

    // types

    private String arrowText(String from, String to) {
        String text = "(" + from + ">" + to + ")";
        if (!types.contains(text)) {
            if (text.length() > 40 || types.size() == 40) {
                throw new Refusal(FULL);
            }
            types.add(text);
        }
        return text;
    }

    /** FROM and TO of the text of an ARROW. */
    private static String[] sides(String arrow) {
        int open = 0;
        for (int i = 1; ; i++) {
            char c = arrow.charAt(i);
            open += c == '(' ? 1 : c == ')' ? -1 : 0;
            if (open == 0 && c == '>') {
                return new String[] {arrow.substring(1, i), arrow.substring(i + 1, arrow.length() - 1)};
            }
        }
    }

    int arrow(int from, int to) {
        if (!isType(from) || !isType(to)) {
            return BAD;
        }
        return undoing(() -> types.indexOf(arrowText(types.get(from), types.get(to))));
    }

    int side(int type, int which) {
        if (!isType(type) || which != 0 && which != 1) {
            return BAD;
        }
        return type == 0 ? NONE : types.indexOf(sides(types.get(type))[which]);
    }

    int declare(int x, int type) {
        if (!isLetter(x) || type != NONE && !isType(type)) {
            return BAD;
        }
        declared[x] = type == NONE ? null : types.get(type);
        return 1;
    }

    // making

    private int size(int t) {
        int size = 1;
        for (int part : terms.get(t).parts) {
            size += size(part);
        }
        return size;
    }

    private int depth(int t) {
        int depth = 0;
        for (int part : terms.get(t).parts) {
            depth = Math.max(depth, depth(part));
        }
        return depth + 1;
    }

    private int add(int kind, int n, int x, String type, Integer... parts) {
        terms.add(new Term(kind, n, x, type, List.of(parts)));
        int t = terms.size() - 1;
        if (terms.size() > 400 || size(t) > 1000 || depth(t) > 40) {
            throw new Refusal(FULL);
        }
        return t;
    }

    int number(int n) {
        return undoing(() -> add(0, n, NONE, null));
    }

    int name(int x) {
        return !isLetter(x) ? BAD : undoing(() -> add(1, 0, x, null));
    }

    int function(int x, int type, int b) {
        return !isLetter(x) || !isType(type) || !isTerm(b) ? BAD : undoing(() -> add(2, 0, x, types.get(type), b));
    }

    int let(int x, int e, int b) {
        return !isLetter(x) || !isTerm(e) || !isTerm(b) ? BAD : undoing(() -> add(4, 0, x, null, e, b));
    }

    int join(int kind, int a, int b, int c) {
        if (kind == 6) {
            return !isTerm(a) || !isTerm(b) || !isTerm(c) ? BAD : undoing(() -> add(6, 0, NONE, null, a, b, c));
        }
        return kind != 3 && kind != 5 || !isTerm(a) || !isTerm(b) ? BAD : undoing(() -> add(kind, 0, NONE, null, a, b));
    }

    long told(int t, int what) {
        if (!isTerm(t) || what < 0 || what > 8) {
            return BAD;
        }
        Term term = terms.get(t);
        if (what >= 6) {
            return what - 6 < term.parts.size() ? term.parts.get(what - 6) : NONE;
        }
        return new long[] {term.kind, size(t), depth(t), term.n, term.x,
            term.type == null ? NONE : types.indexOf(term.type)}[what];
    }

    // names

    /** The letters of the names that no binder around binds, as often as they stand there. */
    private void collect(int t, List<Integer> around, List<Integer> found) {
        Term term = terms.get(t);
        if (term.kind == 1 && !around.contains(term.x)) {
            found.add(term.x);
        }
        for (int i = 0; i < term.parts.size(); i++) {
            boolean binds = term.kind == 2 || term.kind == 4 && i == 1;
            List<Integer> inner = new ArrayList<>(around);
            if (binds) {
                inner.add(term.x);
            }
            collect(term.parts.get(i), inner, found);
        }
    }

    private List<Integer> freeNames(int t) {
        List<Integer> found = new ArrayList<>();
        collect(t, List.of(), found);
        return found;
    }

    private boolean isFree(int x, int t) {
        return freeNames(t).contains(x);
    }

    int free(int t) {
        if (!isTerm(t)) {
            return BAD;
        }
        int sum = 0;
        for (int x : new TreeSet<>(freeNames(t))) {
            sum += (int) Math.pow(2, x);
        }
        return sum;
    }

    int uses(int t, int x) {
        return !isTerm(t) || !isLetter(x) ? BAD : (int) freeNames(t).stream().filter(y -> y == x).count();
    }

    // typing

    private String faulty(int which, int t) {
        fault = which;
        faultAt = t;
        throw new Refusal(NONE);
    }

    private String typeOf(int t, Bound bound) {
        Term term = terms.get(t);
        List<Integer> p = term.parts;
        switch (term.kind) {
            case 0:
                return "i";
            case 1:
                for (Bound b = bound; b != null; b = b.outer) {
                    if (b.letter == term.x) {
                        return b.type;
                    }
                }
                return declared[term.x] != null ? declared[term.x] : faulty(1, t);
            case 2:
                return arrowText(term.type, typeOf(p.get(0), new Bound(term.x, term.type, bound)));
            case 3: {
                String f = typeOf(p.get(0), bound);
                if (f.equals("i")) {
                    return faulty(2, p.get(0));
                }
                String a = typeOf(p.get(1), bound);
                return a.equals(sides(f)[0]) ? sides(f)[1] : faulty(3, p.get(1));
            }
            case 4:
                return typeOf(p.get(1), new Bound(term.x, typeOf(p.get(0), bound), bound));
            case 5:
                for (int part : p) {
                    if (!typeOf(part, bound).equals("i")) {
                        return faulty(3, part);
                    }
                }
                return "i";
            default: {
                if (!typeOf(p.get(0), bound).equals("i")) {
                    return faulty(3, p.get(0));
                }
                String b = typeOf(p.get(1), bound);
                return typeOf(p.get(2), bound).equals(b) ? b : faulty(3, p.get(2));
            }
        }
    }

    int type(int t) {
        if (!isTerm(t)) {
            return BAD;
        }
        fault = 0;
        faultAt = NONE;
        return undoing(() -> types.indexOf(typeOf(t, null)));
    }

    int fault(int what) {
        return what == 0 ? fault : what == 1 ? faultAt : BAD;
    }

    // alike

    /** The text with a number, counted from the outside, for each binder and for the names that it binds. */
    private String nameless(int t, List<Integer> around) {
        Term term = terms.get(t);
        if (term.kind == 1) {
            int level = around.lastIndexOf(term.x);
            return level < 0 ? "free " + term.x : "bound " + level;
        }
        StringBuilder text = new StringBuilder("<" + term.kind + " " + term.n + " " + term.type);
        for (int i = 0; i < term.parts.size(); i++) {
            List<Integer> inner = new ArrayList<>(around);
            if (term.kind == 2 || term.kind == 4 && i == 1) {
                inner.add(term.x);
            }
            text.append(' ').append(nameless(term.parts.get(i), inner));
        }
        return text.append('>').toString();
    }

    int alike(int t, int u) {
        return !isTerm(t) || !isTerm(u) ? BAD : nameless(t, List.of()).equals(nameless(u, List.of())) ? 1 : 0;
    }

    int least(int t) {
        if (!isTerm(t)) {
            return BAD;
        }
        String text = nameless(t, List.of());
        int u = 0;
        while (!nameless(u, List.of()).equals(text)) {
            u++;
        }
        return u;
    }

    // putting

    private int rebuilt(int t, int x, List<Integer> parts) {
        Term term = terms.get(t);
        return parts.equals(term.parts) ? t : add(term.kind, term.n, x, term.type, parts.toArray(new Integer[0]));
    }

    private int putInto(int t, int x, int u) {
        Term term = terms.get(t);
        if (!isFree(x, t)) {
            return t;
        }
        if (term.kind == 1) {
            return u;
        }
        List<Integer> parts = new ArrayList<>();
        if (term.kind != 2 && term.kind != 4) {
            for (int part : term.parts) {
                parts.add(putInto(part, x, u));
            }
            return rebuilt(t, NONE, parts);
        }
        int y = term.x;
        int b = term.parts.get(term.parts.size() - 1);
        if (term.kind == 4) {
            parts.add(putInto(term.parts.get(0), x, u));
            if (y == x || !isFree(x, b)) {
                parts.add(b);
                return rebuilt(t, y, parts);
            }
        }
        if (!isFree(y, u)) {
            parts.add(putInto(b, x, u));
            return rebuilt(t, y, parts);
        }
        int z = 0;
        while (isFree(z, b) || isFree(z, u)) {
            z++;
        }
        if (z > 25) {
            throw new Refusal(FULL);
        }
        int name = add(1, 0, z, null);
        int renamed = putInto(b, y, name);
        parts.add(putInto(renamed, x, u));
        return rebuilt(t, z, parts);
    }

    int put(int t, int x, int u) {
        return !isTerm(t) || !isLetter(x) || !isTerm(u) ? BAD : undoing(() -> putInto(t, x, u));
    }

    // steps

    private int stepInPart(int t, int i) {
        List<Integer> parts = new ArrayList<>(terms.get(t).parts);
        parts.set(i, stepOf(parts.get(i)));
        return add(terms.get(t).kind, 0, NONE, null, parts.toArray(new Integer[0]));
    }

    private int stepOf(int t) {
        Term term = terms.get(t);
        if (term.kind < 3) {
            throw new Refusal(NONE);
        }
        int first = term.parts.get(0), second = term.parts.get(1);
        Term a = terms.get(first), b = terms.get(second);
        if (term.kind == 4) {
            return putInto(second, term.x, first);
        }
        if (term.kind == 3) {
            return a.kind == 2 ? putInto(a.parts.get(0), a.x, second) : stepInPart(t, 0);
        }
        if (a.kind != 0) {
            return stepInPart(t, 0);
        }
        if (term.kind == 6) {
            return a.n != 0 ? second : term.parts.get(2);
        }
        return b.kind != 0 ? stepInPart(t, 1) : add(0, a.n + b.n, NONE, null);
    }

    int step(int t) {
        return !isTerm(t) ? BAD : undoing(() -> stepOf(t));
    }

    int run(int t, int n) {
        if (!isTerm(t) || n < 0 || n > 50) {
            return BAD;
        }
        int[] made = {0};
        int answer = undoing(() -> {
            int reached = t;
            while (made[0] < n) {
                int from = reached;
                int next = undoing(() -> stepOf(from));
                if (next == NONE) {
                    break;
                }
                if (next == FULL) {
                    throw new Refusal(FULL);
                }
                reached = next;
                made[0]++;
            }
            return reached;
        });
        if (answer != FULL) {
            ran = made[0];
        }
        return answer;
    }

    int ran() {
        return ran;
    }

    private int dropIn(int t) {
        Term term = terms.get(t);
        List<Integer> parts = new ArrayList<>();
        for (int part : term.parts) {
            parts.add(dropIn(part));
        }
        return term.kind == 4 && !isFree(term.x, parts.get(1)) ? parts.get(1) : rebuilt(t, term.x, parts);
    }

    int drop(int t) {
        return !isTerm(t) ? BAD : undoing(() -> dropIn(t));
    }

    // texts

    String text(int t) {
        Term term = terms.get(t);
        char x = (char) ('a' + term.x);
        String[] p = new String[3];
        for (int i = 0; i < term.parts.size(); i++) {
            p[i] = text(term.parts.get(i));
        }
        switch (term.kind) {
            case 0: return "" + term.n;
            case 1: return "" + x;
            case 2: return "\\" + x + ":" + term.type + "." + p[0];
            case 3: return "(" + p[0] + " " + p[1] + ")";
            case 4: return "[" + x + "=" + p[0] + "]" + p[1];
            case 5: return "(" + p[0] + "+" + p[1] + ")";
            default: return "{" + p[0] + "?" + p[1] + ":" + p[2] + "}";
        }
    }

    int print(int t) {
        if (!isTerm(t)) {
            return BAD;
        }
        String text = text(t);
        if (text.length() > 4000) {
            return FULL;
        }
        print = text;
        return text.length();
    }

    int at(int i) {
        return i < 0 || i >= print.length() ? BAD : print.charAt(i);
    }

    int feed(long w, int n) {
        if (n < 1 || n > 8) {
            return BAD;
        }
        StringBuilder bytes = new StringBuilder();
        for (int i = 0; i < n; i++) {
            bytes.insert(0, (char) (w & 255));
            w >>= 8;
        }
        if (tape.length() + n > 600) {
            return FULL;
        }
        tape += bytes;
        return tape.length();
    }

    int copy() {
        if (print.length() > 600) {
            return FULL;
        }
        tape = print;
        return tape.length();
    }

    private Refusal wrong() {
        return new Refusal(-10 - place);
    }

    private char here() {
        if (place >= tape.length()) {
            throw wrong();
        }
        return tape.charAt(place);
    }

    private char take(String allowed) {
        char c = here();
        if (allowed.indexOf(c) < 0) {
            throw wrong();
        }
        place++;
        return c;
    }

    private int takeLetter() {
        return take("abcdefghijklmnopqrstuvwxyz") - 'a';
    }

    private int readNumber() {
        String digits = "" + take("-0123456789");
        if (digits.equals("-")) {
            digits += take("123456789");
        }
        while (!digits.equals("0") && place < tape.length() && "0123456789".indexOf(here()) >= 0) {
            long value = Long.parseLong(digits + here());
            if (value < Integer.MIN_VALUE || value > Integer.MAX_VALUE) {
                throw wrong();
            }
            digits += here();
            place++;
        }
        return add(0, Integer.parseInt(digits), NONE, null);
    }

    /** What is due begins with the next byte, if that is one of the first bytes of it; else that byte, or the end, is told. */
    private char begins(String firstBytes, int level) {
        char c = take(firstBytes);
        place--;
        if (level == 41) {
            throw new Refusal(FULL);
        }
        return c;
    }

    private String readType(int level) {
        begins("i(", level);
        if (take("i(") == 'i') {
            return "i";
        }
        String from = readType(level + 1);
        take(">");
        String to = readType(level + 1);
        take(")");
        return arrowText(from, to);
    }

    private int readTerm(int level) {
        char c = begins("-0123456789abcdefghijklmnopqrstuvwxyz\\([{", level);
        if (c == '-' || c >= '0' && c <= '9') {
            return readNumber();
        }
        if (c >= 'a' && c <= 'z') {
            return add(1, 0, takeLetter(), null);
        }
        take("\\([{");
        if (c == '\\') {
            int x = takeLetter();
            take(":");
            String type = readType(level + 1);
            take(".");
            return add(2, 0, x, type, readTerm(level + 1));
        }
        if (c == '[') {
            int x = takeLetter();
            take("=");
            int e = readTerm(level + 1);
            take("]");
            return add(4, 0, x, null, e, readTerm(level + 1));
        }
        int first = readTerm(level + 1);
        if (c == '(') {
            char between = take(" +");
            int second = readTerm(level + 1);
            take(")");
            return add(between == ' ' ? 3 : 5, 0, NONE, null, first, second);
        }
        take("?");
        int second = readTerm(level + 1);
        take(":");
        int third = readTerm(level + 1);
        take("}");
        return add(6, 0, NONE, null, first, second, third);
    }

    int read() {
        place = 0;
        int answer = undoing(() -> {
            int t = readTerm(1);
            if (place < tape.length()) {
                throw wrong();
            }
            return t;
        });
        tape = "";
        return answer;
    }

    int count(int what) {
        return what < 0 || what > 3 ? BAD : new int[] {terms.size(), types.size(), tape.length(), print.length()}[what];
    }

    int clear() {
        int gone = terms.size();
        terms.clear();
        return gone;
    }
}
