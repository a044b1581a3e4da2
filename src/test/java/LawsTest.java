import java.util.ArrayList;
import java.util.List;
import java.util.Random;

/**
 * What must hold of drawn TERMS whatever their numbers are: no NAME is caught, TYPES stay as they are behind STEPS, values are those
 * of a plain evaluation, texts come back. Unlike Model it does not follow the document's ways, only their ends.
 */
public final class LawsTest {
    private static final int INT = 0, TO_INT = 1, TO_TO_INT = 2, OF_ARROW = 3;
    private static final int NUMBER = 0, NAME = 1, FUNCTION = 2, CALL = 3, LET = 4, SUM = 5, CHOICE = 6;
    private static final int ROUNDS = 1500;

    /** What a letter is bound to, for the evaluation; what it is bound to have, for the drawing. */
    private record Bound(int letter, int type, Value value, Bound outer) { }

    /** A NUMBER, or a FUNCTION with what is bound around it. */
    private record Value(int n, int function, Bound around) { }

    private final Check check;
    private final Random random;
    private CoreTerms core;
    private int left;
    private int seen;

    private LawsTest(Check check, long seed) {
        this.check = check;
        this.random = new Random(seed);
    }

    public static void main(String[] args) {
        Check check = new Check("laws");
        int rounds = args.length > 0 ? Integer.parseInt(args[0]) : ROUNDS;
        long first = args.length > 1 ? Long.parseLong(args[1]) : 1;
        int seen = 0;
        for (int i = 0; i < rounds; i++) {
            LawsTest laws = new LawsTest(check, first + i);
            laws.round();
            seen += laws.seen;
        }
        check.due("laws were looked at, not only FULL", seen > 5 * rounds ? 1 : 0, 1);
        check.end();
    }

    /** INT, its ARROWS, and a, b, c, d DECLARED to have a TYPE each. */
    private void begin() {
        core = new CoreTerms();
        check.due("(i>i)", core.arrow(INT, INT), TO_INT);
        check.due("(i>(i>i))", core.arrow(INT, TO_INT), TO_TO_INT);
        check.due("((i>i)>i)", core.arrow(TO_INT, INT), OF_ARROW);
        for (int x = 0; x < 4; x++) {
            core.declare(x, x);
        }
    }

    private static Bound declared() {
        Bound around = null;
        for (int x = 0; x < 4; x++) {
            around = new Bound(x, x, null, around);
        }
        return around;
    }

    private void round() {
        begin();
        left = 25;
        int t = drawn(random.nextInt(4), declared(), 0);
        left = 8;
        int u = drawn(random.nextInt(4), declared(), 0);
        String before = Check.stateOf(core);
        lawsOfNames(t);
        lawsOfAlike(t, u);
        lawsOfPut(t, u);
        lawsOfSteps(t);
        lawsOfDrop(t);
        lawsOfTexts(t);
        check.sentence(10, "TERMS never change");
        for (int i = 0; i <= Math.max(t, u); i++) {
            String row = before.split("\n")[2 + i];
            check.due("TERM " + i, Check.stateOf(core).split("\n")[2 + i], row);
        }
        begin();
        left = 25;
        lawsOfValues(drawn(INT, null, 0));
    }

    // drawing TERMS that have a TYPE

    private static int typeOf(int x, Bound around) {
        for (Bound b = around; b != null; b = b.outer) {
            if (b.letter == x) {
                return b.type;
            }
        }
        return CoreTerms.NONE;
    }

    private int drawn(int type, Bound around, int depth) {
        left--;
        int way = depth > 8 || left < 0 ? random.nextInt(2) : random.nextInt(9);
        int x = random.nextInt(6);
        if (way < 3 && typeOf(x, around) == type) {
            return core.name(x);
        }
        if (type == INT && way < 2) {
            return core.number(random.nextInt(5) - 2);
        }
        switch (way) {
            case 3: {
                int arrow = type == INT ? (random.nextBoolean() ? TO_INT : OF_ARROW) : TO_TO_INT;
                if (type <= TO_INT) {
                    int f = drawn(arrow, around, depth + 1);
                    return core.join(CALL, f, drawn(core.side(arrow, 0), around, depth + 1), -1);
                }
                break;
            }
            case 4: case 5: {
                int bound = random.nextInt(4);
                int e = drawn(bound, around, depth + 1);
                return core.let(x, e, drawn(type, new Bound(x, bound, null, around), depth + 1));
            }
            case 6:
                if (type == INT) {
                    int a = drawn(INT, around, depth + 1);
                    return core.join(SUM, a, drawn(INT, around, depth + 1), -1);
                }
                break;
            case 7: {
                int a = drawn(INT, around, depth + 1);
                int b = drawn(type, around, depth + 1);
                return core.join(CHOICE, a, b, drawn(type, around, depth + 1));
            }
            default:
                break;
        }
        if (type == INT) {
            return core.number(random.nextInt(3));
        }
        return core.function(x, core.side(type, 0), drawn(core.side(type, 1), new Bound(x, core.side(type, 0), null, around), depth + 1));
    }

    // the laws

    private int told(int t, int what) {
        return (int) core.told(t, what);
    }

    /** The TERM without the letters that it binds: a bound NAME tells how many FUNCTIONS, LETS are between it and its own. */
    private String nameless(int t, List<Integer> around) {
        int kind = told(t, 0);
        if (kind == NUMBER) {
            return "" + told(t, 3);
        }
        if (kind == NAME) {
            int level = around.lastIndexOf(told(t, 4));
            return level < 0 ? free(told(t, 4)) : "#" + (around.size() - level);
        }
        StringBuilder text = new StringBuilder("{" + kind + ":" + told(t, 5));
        for (int i = 6; i <= 8 && told(t, i) >= 0; i++) {
            List<Integer> inner = new ArrayList<>(around);
            if (kind == FUNCTION || kind == LET && i == 7) {
                inner.add(told(t, 4));
            }
            text.append(' ').append(nameless(told(t, i), inner));
        }
        return text.append('}').toString();
    }

    private static String free(int x) {
        return "<" + (char) ('a' + x) + ">";
    }

    private String nameless(int t) {
        return nameless(t, List.of());
    }

    private int typed(int t) {
        int count = core.count(1);
        int type = core.type(t);
        check.due("its ARROWS are there already", core.count(1), count);
        return type;
    }

    private void lawsOfNames(int t) {
        String text = nameless(t);
        for (int x = 0; x < 26; x++) {
            int uses = (text.length() - text.replace(free(x), "").length()) / 3;
            check.sentence(12, "How many FREE NAMES x there are in a TERM");
            check.due(text + " " + x, core.uses(t, x), uses);
            check.sentence(11, "The letters that are FREE in a TERM");
            check.due(text + " " + x, core.free(t) >> x & 1, uses > 0 ? 1 : 0);
        }
    }

    private void lawsOfAlike(int t, int u) {
        String text = nameless(t);
        check.sentence(15, "Whether two TERMS are ALIKE");
        check.due(text + ", " + nameless(u), core.alike(t, u), text.equals(nameless(u)) ? 1 : 0);
        check.sentence(16, "The least TERM that is ALIKE");
        int least = 0;
        while (!nameless(least).equals(text)) {
            least++;
        }
        check.due(text, core.least(t), least);
    }

    private void lawsOfPut(int t, int u) {
        for (int x = 0; x < 4; x++) {
            core.declare(x, core.type(u));
            int before = core.type(t);
            String due = nameless(t).replace(free(x), nameless(u));
            int put = core.put(t, x, u);
            if (put != CoreTerms.FULL) {
                check.sentence(17, "put into one another without a name that is caught");
                check.due(nameless(t) + " " + x, nameless(put), due);
                if (before >= 0 && (core.free(u) >> x & 1) == 0) {
                    check.due("the TYPE behind it", core.type(put), before);
                }
                seen++;
            }
            core.declare(x, x);
        }
    }

    private void lawsOfSteps(int t) {
        int type = typed(t);
        check.sentence(13, "THE TYPE");
        check.due("it was drawn to have one: " + nameless(t), type >= 0 ? 1 : 0, 1);
        int here = t;
        for (int i = 0; i < 6; i++) {
            int next = core.step(here);
            if (next < 0) {
                break;
            }
            check.sentence(18, "A STEP");
            check.due("the TYPE behind it: " + nameless(here), core.type(next), type);
            check.due("no NAME comes to be FREE", core.free(next) & ~core.free(here), 0);
            check.sentence(19, "Up to n STEPS, as long as there is one: the TERM behind them");
            int run = core.run(t, i + 1);
            if (run != CoreTerms.FULL) {
                check.due("as many single ones: " + nameless(t), nameless(run), nameless(next));
                check.sentence(20, "How many STEPS the latest run() made");
                check.due(nameless(t), core.ran(), i + 1);
                seen++;
            }
            here = next;
        }
    }

    private boolean hasIdleLet(int t) {
        if (told(t, 0) == LET && (core.free(told(t, 7)) >> told(t, 4) & 1) == 0) {
            return true;
        }
        for (int i = 6; i <= 8 && told(t, i) >= 0; i++) {
            if (hasIdleLet(told(t, i))) {
                return true;
            }
        }
        return false;
    }

    private void lawsOfDrop(int t) {
        int dropped = core.drop(t);
        if (dropped < 0) {
            return;
        }
        seen++;
        check.sentence(21, "Lets are DROPPED");
        check.due("none is left that is not used: " + nameless(t), hasIdleLet(dropped) ? 1 : 0, 0);
        check.due("itself, if there was none: " + nameless(t), dropped == t ? 1 : 0, hasIdleLet(t) ? 0 : 1);
        check.due("once more changes nothing", core.drop(dropped), dropped);
        check.due("the TYPE behind it", core.type(dropped), core.type(t));
        check.due("no NAME comes to be FREE", core.free(dropped) & ~core.free(t), 0);
    }

    private void lawsOfTexts(int t) {
        String text = Check.text(core, t);
        core.copy();
        int room = 400 - core.count(0);
        int came = core.read();
        check.sentence(26, "THE TAPE is read: the TERM");
        if (room < told(t, 1)) {
            check.due(text, came, CoreTerms.FULL);
            return;
        }
        seen++;
        check.due(text, Check.text(core, came), text);
        check.due(text + " is ALIKE", core.alike(came, t), 1);
        check.due(text + " has come last", came, core.count(0) - 1);
        check.due(text + " all anew", core.count(0), 400 - room + told(t, 1));
    }

    // values

    private Value valueOf(int t, Bound around) {
        switch (told(t, 0)) {
            case NUMBER:
                return new Value(told(t, 3), -1, null);
            case NAME: {
                Bound b = around;
                while (b.letter != told(t, 4)) {
                    b = b.outer;
                }
                return b.value;
            }
            case FUNCTION:
                return new Value(0, t, around);
            case CALL: {
                Value f = valueOf(told(t, 6), around);
                Value a = valueOf(told(t, 7), around);
                return valueOf(told(f.function, 6), new Bound(told(f.function, 4), 0, a, f.around));
            }
            case LET:
                return valueOf(told(t, 7), new Bound(told(t, 4), 0, valueOf(told(t, 6), around), around));
            case SUM:
                return new Value(valueOf(told(t, 6), around).n + valueOf(told(t, 7), around).n, -1, null);
            default:
                return valueOf(told(t, valueOf(told(t, 6), around).n != 0 ? 7 : 8), around);
        }
    }

    private void lawsOfValues(int t) {
        check.sentence(19, "Up to n STEPS, as long as there is one: the TERM behind them");
        int end = core.run(t, 50);
        if (end < 0 || core.ran() == 50) {
            return;
        }
        seen++;
        check.due("a NUMBER at the end: " + nameless(t), told(end, 0), NUMBER);
        check.due("the value: " + nameless(t), told(end, 3), valueOf(t, null).n);
    }
}
