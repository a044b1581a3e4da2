import java.util.HashMap;
import java.util.Map;

/** Objects, TERMS and TYPES that stand just at a bound of the document. */
final class Made {
    static final int MIN = Integer.MIN_VALUE, MAX = Integer.MAX_VALUE;
    static final int[] NO_LETTERS = {-1, -2, -3, 26, 27, 31, 32, 58, 97, MIN, MAX};

    private Made() {
    }

    /** Something of all that an object holds, so that a change of any of it is seen. */
    static CoreTerms rich() {
        CoreTerms core = new CoreTerms();
        core.arrow(0, 0);
        core.arrow(1, 0);
        core.declare(0, 1);
        core.declare(25, 2);
        Check.read(core, "{1?[b=-2](a b):\\c:(i>i).(c z)}");
        core.run(Check.read(core, "(1+2)"), 50);
        core.type(Check.read(core, "(3 4)"));
        core.print(Check.read(core, "[d=5]d"));
        Check.feed(core, "(a+[b=17]{b?c:z})");
        return core;
    }

    /** The texts are read, then NUMBERS come till there is room for so many TERMS more. */
    static CoreTerms fullOfTerms(int room, String... texts) {
        CoreTerms core = new CoreTerms();
        for (String text : texts) {
            Check.read(core, text);
        }
        while (core.count(0) < 400 - room) {
            core.number(0);
        }
        return core;
    }

    /** ARROWS to the first six TYPES, in order; so (i>((i>i)>i)), which is arrow(0, 7), is never one of them. */
    static CoreTerms fullOfTypes(int room) {
        CoreTerms core = new CoreTerms();
        for (int from = 0; core.count(1) < 40 - room; from++) {
            for (int to = 0; to < 6 && core.count(1) < 40 - room; to++) {
                core.arrow(from, to);
            }
        }
        return core;
    }

    /** Numbers that are none of so many that are counted from 0. */
    static int[] notBelow(int total) {
        return new int[] {-1, -2, -3, -10, MIN, total, total + 1, total + 400, MAX};
    }

    static int ofSize(CoreTerms core, int size) {
        if (size == 1) {
            return core.number(1);
        }
        if (size % 2 == 0) {
            return core.function(0, 0, ofSize(core, size - 1));
        }
        int half = ofSize(core, size / 2);
        return core.join(5, half, half, 0);
    }

    /** FUNCTIONS of b around a NAME a. */
    static int ofDepth(CoreTerms core, int depth) {
        int t = core.name(0);
        for (int i = 1; i < depth; i++) {
            t = core.function(1, 0, t);
        }
        return t;
    }

    /** A TYPE of LENGTH 4 * arrows + 1. */
    static int ofArrows(CoreTerms core, int arrows) {
        int type = 0;
        for (int i = 0; i < arrows; i++) {
            type = core.arrow(type, 0);
        }
        return type;
    }

    /** A TERM whose text has so many bytes. */
    static int ofWidth(CoreTerms core, int width) {
        return ofWidth(core, width, new HashMap<>());
    }

    private static int ofWidth(CoreTerms core, int width, Map<Integer, Integer> made) {
        if (!made.containsKey(width)) {
            made.put(width, newOfWidth(core, width, made));
        }
        return made.get(width);
    }

    private static int newOfWidth(CoreTerms core, int width, Map<Integer, Integer> made) {
        if (width <= 10) {
            return core.number(Integer.parseInt("1234567890".substring(0, width)));
        }
        if (width <= 15) {
            return core.function(0, 0, ofWidth(core, width - 5, made));
        }
        int half = (width - 3) / 2;
        return core.join(5, ofWidth(core, half, made), ofWidth(core, width - 3 - half, made), 0);
    }

    /** A SUM of the NAMES from one letter to another. */
    static int ofLetters(CoreTerms core, int first, int last) {
        int t = core.name(first);
        for (int x = first + 1; x <= last; x++) {
            t = core.join(5, t, core.name(x), 0);
        }
        return t;
    }

    /** A SUM of so many times one NAME; its SIZE is twice that, less 1. */
    static int ofUses(CoreTerms core, int x, int uses) {
        if (uses == 1) {
            return core.name(x);
        }
        int half = ofUses(core, x, uses / 2);
        int both = core.join(5, half, half, 0);
        return uses % 2 == 0 ? both : core.join(5, both, core.name(x), 0);
    }
}
