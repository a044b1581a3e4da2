import java.util.HashMap;
import java.util.Map;
import java.util.Random;

/** All promises: runs of 512 calls, drawn from fixed seeds, whose every answer must be that of Model. */
public final class ModelTest {
    private static final int RUNS = 1500, CALLS = 512;
    private static final int[] ODD = {-1, -2, -3, 26, 27, 32, 39, 40, 41, 51, 399, 400, 401, Integer.MAX_VALUE, Integer.MIN_VALUE};
    private static final String SIGNS = "\\:.()[]={}?+ i>-0129abz";
    private static final Map<String, Integer> SEEN = new HashMap<>();

    private final CoreTerms core = new CoreTerms();
    private final Model model = new Model();
    private final Random random;
    private final int letters;
    private final int wrongShare;
    private final StringBuilder log = new StringBuilder();

    private ModelTest(long seed) {
        random = new Random(seed);
        letters = random.nextInt(4) == 0 ? 26 : 2 + random.nextInt(4);
        wrongShare = random.nextBoolean() ? 12 : 60;
    }

    public static void main(String[] args) {
        Check check = new Check("model");
        int runs = args.length > 0 ? Integer.parseInt(args[0]) : RUNS;
        long first = args.length > 1 ? Long.parseLong(args[1]) : 1;
        for (long seed = first; seed < first + runs; seed++) {
            ModelTest run = new ModelTest(seed);
            check.due("seed " + seed + ": " + run.log, run.play(), CALLS);
        }
        // each of these must be met somewhere, else the runs prove less than they seem to
        for (String kind : new String[] {"arrow FULL", "function FULL", "let FULL", "join FULL", "type NONE", "type FULL", "put FULL",
            "step NONE", "step FULL", "run FULL", "drop FULL", "print FULL", "feed FULL", "copy FULL", "read FULL", "read wrong",
            "number FULL", "name FULL", "put", "step", "run", "drop", "read", "alike"}) {
            check.due("met: " + kind, SEEN.getOrDefault(kind, 0) > 0 ? 1 : 0, 1);
        }
        if (args.length > 0) {
            System.out.println(SEEN);
        }
        check.end();
    }

    /** How many calls were answered as due. */
    private int play() {
        for (int i = 0; i < CALLS; i++) {
            if (!call()) {
                System.out.println(log);
                return i;
            }
        }
        return CALLS;
    }

    private boolean odd() {
        return random.nextInt(wrongShare) == 0 && random.nextInt(3) == 0;
    }

    private int anyOdd() {
        return ODD[random.nextInt(ODD.length)];
    }

    private int term() {
        int total = model.count(0);
        if (odd() || total == 0) {
            return random.nextBoolean() ? total : anyOdd();
        }
        return random.nextInt(3) > 0 ? Math.max(0, total - 1 - random.nextInt(12)) : random.nextInt(total);
    }

    private int type() {
        return odd() ? anyOdd() : random.nextInt(Math.min(model.count(1), random.nextBoolean() ? 3 : 40));
    }

    private int letter() {
        return odd() ? anyOdd() : random.nextInt(letters);
    }

    private int small(int bound) {
        return odd() ? anyOdd() : random.nextInt(bound);
    }

    private boolean call() {
        int which = random.nextInt(100);
        if (which < 6) { return number(); }
        if (which < 14) { return one("name", letter()); }
        if (which < 22) { return three("function", letter(), type(), term()); }
        if (which < 28) { return three("let", letter(), term(), term()); }
        if (which < 40) { return join(); }
        if (which < 44) { return two("arrow", type(), type()); }
        if (which < 46) { return two("side", type(), small(2)); }
        if (which < 50) { return two("declare", letter(), random.nextInt(3) == 0 ? Model.NONE : type()); }
        if (which < 53) { return two("told", term(), small(9)); }
        if (which < 55) { return one("free", term()); }
        if (which < 57) { return two("uses", term(), letter()); }
        if (which < 62) { return one("type", term()) && one("fault", 0) && one("fault", 1) && one("count", 1); }
        if (which < 63) { return one("fault", small(3)); }
        if (which < 65) { return two("alike", term(), term()); }
        if (which < 67) { return one("least", term()); }
        if (which < 73) { return three("put", term(), letter(), term()) && whole(); }
        if (which < 77) { return one("step", term()) && whole(); }
        if (which < 80) { return two("run", term(), small(51)) && one("ran", 0) && whole(); }
        if (which < 83) { return one("drop", term()) && whole(); }
        if (which < 86) { return one("print", term()) && one("at", small(40)); }
        if (which < 87) { return one("at", small(4000)); }
        if (which < 88) { return feed(random.nextLong(), small(10)); }
        if (which < 98) { return text(); }
        if (which < 99) { return random.nextBoolean() ? one("count", small(5)) : pile(); }
        return random.nextInt(4) > 0 || one("clear", 0);
    }

    private boolean number() {
        return one("number", random.nextInt(3) == 0 ? random.nextInt() : random.nextInt(5) - 2);
    }

    private boolean join() {
        int kind = odd() ? anyOdd() : new int[] {3, 3, 3, 5, 5, 6, 6, random.nextInt(8)}[random.nextInt(8)];
        int a = term(), b = term(), c = term();
        return same("join " + kind + " " + a + " " + b + " " + c, "join", core.join(kind, a, b, c), model.join(kind, a, b, c));
    }

    /** A term of much text, so that the bounds of SIZE and THE PRINT are met. */
    private boolean pile() {
        boolean fine = one("number", Integer.MIN_VALUE);
        for (int i = 0; i < 10 && fine; i++) {
            int a = model.count(0) - 1, b = a - random.nextInt(2);
            fine = same("join 5 " + a + " " + b, "join", core.join(5, a, b, 0), model.join(5, a, b, 0));
        }
        return fine && one("print", model.count(0) - 1) && one("count", 3) && one("copy", 0);
    }

    private boolean feed(long w, int n) {
        return same("feed " + w + " " + n, "feed", core.feed(w, n), model.feed(w, n));
    }

    private boolean feedText(String text) {
        for (int i = 0; i < text.length(); i += 8) {
            long w = 0;
            int n = Math.min(8, text.length() - i);
            for (int k = 0; k < n; k++) {
                w = w << 8 | text.charAt(i + k);
            }
            if (!feed(w, n)) {
                return false;
            }
        }
        return true;
    }

    private boolean text() {
        int how = random.nextInt(8);
        if (how == 0) {
            return one("copy", 0) && one("read", 0) && whole();
        }
        if (how == 1) {
            return one("read", 0);
        }
        String text = how == 2 ? deep() : how < 5 && model.count(0) > 0 ? model.text(Math.max(0, model.count(0) - 1 - random.nextInt(10)))
            : drawn(random.nextInt(20) == 0 ? 39 : 5);
        if (text.length() > 700) {
            return one("copy", 0);
        }
        if (how == 3 && !text.isEmpty()) {
            text = changed(text);
        }
        if (how == 4) {
            text = text.substring(0, random.nextInt(text.length() + 1));
        }
        return feedText(text) && (random.nextInt(8) == 0 || one("read", 0) && one("count", 0) && one("count", 1));
    }

    /** Some 40 TERMS and TYPES that begin within one another, then the end or some bytes. */
    private String deep() {
        String[] openers = {"(", "(1 ", "(a+", "[a=", "[b=1]", "{", "{1?", "{1?2:", "\\a:i."};
        StringBuilder text = new StringBuilder();
        int around = random.nextInt(42);
        for (int i = 0; i < around; i++) {
            text.append(openers[random.nextInt(openers.length)]);
        }
        if (random.nextBoolean()) {
            text.append("\\a:");
            for (int i = 37 + random.nextInt(4) - around; i > 0; i--) {
                text.append(random.nextInt(3) > 0 ? "(" : "(i>");
            }
        }
        for (int i = random.nextInt(3); i > 0; i--) {
            text.append(SIGNS.charAt(random.nextInt(SIGNS.length())));
        }
        return text.toString();
    }

    private String changed(String text) {
        int i = random.nextInt(text.length());
        char c = SIGNS.charAt(random.nextInt(SIGNS.length()));
        return text.substring(0, i) + c + text.substring(i + random.nextInt(2));
    }

    private String drawn(int levels) {
        char x = (char) ('a' + random.nextInt(letters));
        int kind = levels <= 0 ? random.nextInt(2) : 2 + random.nextInt(levels > 5 ? 3 : 5);
        int rest = levels > 5 ? levels - 1 : levels - 1 - random.nextInt(2);
        switch (kind) {
            case 0: return "" + (random.nextInt(4) == 0 ? random.nextInt() : random.nextInt(20) - 10);
            case 1: return "" + x;
            case 2: return "\\" + x + ":" + drawnType(random.nextInt(5)) + "." + drawn(rest);
            case 3: return levels > 5 ? "(" + drawn(0) + " " + drawn(rest) + ")" : "(" + drawn(rest) + " " + drawn(rest) + ")";
            case 4: return levels > 5 ? "[" + x + "=" + drawn(0) + "]" + drawn(rest) : "[" + x + "=" + drawn(rest) + "]" + drawn(rest);
            case 5: return "(" + drawn(rest) + "+" + drawn(rest) + ")";
            default: return "{" + drawn(0) + "?" + drawn(rest) + ":" + drawn(rest) + "}";
        }
    }

    private String drawnType(int levels) {
        return levels <= 0 ? "i" : "(" + drawnType(levels - 1 - random.nextInt(3)) + ">" + drawnType(levels - 2) + ")";
    }

    /** What the call may have changed: the last terms, and how many there are. */
    private boolean whole() {
        if (core.count(0) != model.count(0) || core.count(1) != model.count(1)) {
            log.append("counts differ\n");
            return false;
        }
        for (int t = Math.max(0, model.count(0) - 8); t < model.count(0); t++) {
            for (int what = 0; what < 9; what++) {
                if (core.told(t, what) != model.told(t, what)) {
                    log.append("told ").append(t).append(' ').append(what).append(" differs\n");
                    return false;
                }
            }
            if (core.free(t) != model.free(t)) {
                log.append("free ").append(t).append(" differs\n");
                return false;
            }
        }
        return true;
    }

    private boolean one(String name, int a) {
        long got, want;
        switch (name) {
            case "number": got = core.number(a); want = model.number(a); break;
            case "name": got = core.name(a); want = model.name(a); break;
            case "free": got = core.free(a); want = model.free(a); break;
            case "type": got = core.type(a); want = model.type(a); break;
            case "fault": got = core.fault(a); want = model.fault(a); break;
            case "least": got = core.least(a); want = model.least(a); break;
            case "step": got = core.step(a); want = model.step(a); break;
            case "ran": got = core.ran(); want = model.ran(); break;
            case "drop": got = core.drop(a); want = model.drop(a); break;
            case "print": got = core.print(a); want = model.print(a); break;
            case "at": got = core.at(a); want = model.at(a); break;
            case "copy": got = core.copy(); want = model.copy(); break;
            case "read": got = core.read(); want = model.read(); break;
            case "count": got = core.count(a); want = model.count(a); break;
            default: got = core.clear(); want = model.clear(); break;
        }
        return same(name + " " + a, name, got, want);
    }

    private boolean two(String name, int a, int b) {
        long got, want;
        switch (name) {
            case "arrow": got = core.arrow(a, b); want = model.arrow(a, b); break;
            case "side": got = core.side(a, b); want = model.side(a, b); break;
            case "declare": got = core.declare(a, b); want = model.declare(a, b); break;
            case "told": got = core.told(a, b); want = model.told(a, b); break;
            case "uses": got = core.uses(a, b); want = model.uses(a, b); break;
            case "alike": got = core.alike(a, b); want = model.alike(a, b); break;
            default: got = core.run(a, b); want = model.run(a, b); break;
        }
        return same(name + " " + a + " " + b, name, got, want);
    }

    private boolean three(String name, int a, int b, int c) {
        long got, want;
        switch (name) {
            case "function": got = core.function(a, b, c); want = model.function(a, b, c); break;
            case "let": got = core.let(a, b, c); want = model.let(a, b, c); break;
            default: got = core.put(a, b, c); want = model.put(a, b, c); break;
        }
        return same(name + " " + a + " " + b + " " + c, name, got, want);
    }

    private boolean same(String row, String name, long got, long want) {
        String kind = want >= 0 ? "" : want == Model.BAD ? " BAD" : want == Model.NONE ? " NONE" : want == Model.FULL ? " FULL" : " wrong";
        SEEN.merge(name + kind, 1, Integer::sum);
        if (got == want) {
            if (log.length() < 20000) {
                log.append(row).append(" = ").append(got).append('\n');
            }
            return true;
        }
        log.append(row).append(" answered ").append(got).append(", due is ").append(want).append('\n');
        return false;
    }
}
