/** Promises 5 to 12, 27 and 28: number, name, function, let, join, told, free, uses, count, clear. */
public final class TermsTest {
    private static final int BAD = CoreTerms.BAD, NONE = CoreTerms.NONE, FULL = CoreTerms.FULL;

    public static void main(String[] args) {
        Check check = new Check("terms");
        leaves(check);
        functions(check);
        lets(check);
        joins(check);
        mostTerms(check);
        mostSize(check);
        mostDepth(check);
        toldOf(check);
        freeLetters(check);
        usesOfNames(check);
        counts(check);
        clears(check);
        check.end();
    }

    private static void row(Check check, CoreTerms core, int t, long... want) {
        for (int what = 0; what < want.length; what++) {
            check.due("told(" + t + ", " + what + ")", core.told(t, what), want[what]);
        }
    }

    private static void leaves(Check check) {
        CoreTerms core = new CoreTerms();
        int[] numbers = {0, 1, -1, -2, -3, Integer.MAX_VALUE, Integer.MIN_VALUE, 0};
        for (int i = 0; i < numbers.length; i++) {
            check.due("number(" + numbers[i] + ")", core.number(numbers[i]), i);
            row(check, core, i, 0, 1, 1, numbers[i], NONE, NONE, NONE, NONE, NONE);
        }
        check.due("name(0)", core.name(0), 8);
        check.due("name(25)", core.name(25), 9);
        check.due("name(0) again is another", core.name(0), 10);
        row(check, core, 8, 1, 1, 1, 0, 0, NONE, NONE, NONE, NONE);
        row(check, core, 9, 1, 1, 1, 0, 25, NONE, NONE, NONE, NONE);
        for (int x : new int[] {-1, 26, -2, Integer.MAX_VALUE, Integer.MIN_VALUE}) {
            check.refused("name(" + x + ")", core, () -> core.name(x), BAD);
        }
    }

    private static void functions(Check check) {
        CoreTerms core = new CoreTerms();
        core.arrow(0, 0);
        core.name(3);
        check.due("function", core.function(3, 1, 0), 1);
        row(check, core, 1, 2, 2, 2, 0, 3, 1, 0, NONE, NONE);
        check.due("function(25, 0, 1)", core.function(25, 0, 1), 2);
        row(check, core, 2, 2, 3, 3, 0, 25, 0, 1, NONE, NONE);
        int[][] wrong = {{-1, 0, 0}, {26, 0, 0}, {0, 2, 0}, {0, -1, 0}, {0, -2, 0}, {0, 0, 3}, {0, 0, -1},
            {0, 0, 400}, {0, 0, Integer.MAX_VALUE}, {0, Integer.MIN_VALUE, 0}};
        for (int[] w : wrong) {
            check.refused("function(" + w[0] + ", " + w[1] + ", " + w[2] + ")", core,
                () -> core.function(w[0], w[1], w[2]), BAD);
        }
    }

    private static void lets(Check check) {
        CoreTerms core = new CoreTerms();
        core.number(4);
        core.name(3);
        check.due("let", core.let(3, 0, 1), 2);
        row(check, core, 2, 4, 3, 2, 0, 3, NONE, 0, 1, NONE);
        check.due("let of a let", core.let(0, 2, 1), 3);
        row(check, core, 3, 4, 5, 3, 0, 0, NONE, 2, 1, NONE);
        int[][] wrong = {{-1, 0, 0}, {26, 0, 0}, {0, 4, 0}, {0, -1, 0}, {0, 0, 4}, {0, 0, -1}, {0, 400, 0},
            {Integer.MIN_VALUE, 0, 0}, {0, Integer.MAX_VALUE, 0}, {0, 0, Integer.MIN_VALUE}};
        for (int[] w : wrong) {
            check.refused("let(" + w[0] + ", " + w[1] + ", " + w[2] + ")", core,
                () -> core.let(w[0], w[1], w[2]), BAD);
        }
    }

    private static void joins(Check check) {
        CoreTerms core = new CoreTerms();
        core.number(4);
        core.name(3);
        check.due("a call", core.join(3, 0, 1, 99), 2);
        row(check, core, 2, 3, 3, 2, 0, NONE, NONE, 0, 1, NONE);
        check.due("a sum", core.join(5, 2, 1, -7), 3);
        row(check, core, 3, 5, 5, 3, 0, NONE, NONE, 2, 1, NONE);
        check.due("a choice", core.join(6, 0, 3, 2), 4);
        row(check, core, 4, 6, 10, 4, 0, NONE, NONE, 0, 3, 2);
        check.due("a choice of one", core.join(6, 0, 0, 0), 5);
        row(check, core, 5, 6, 4, 2, 0, NONE, NONE, 0, 0, 0);
        int[][] wrong = {{0, 0, 0, 0}, {1, 0, 0, 0}, {2, 0, 0, 0}, {4, 0, 0, 0}, {7, 0, 0, 0}, {-1, 0, 0, 0},
            {3, 6, 0, 0}, {3, 0, 6, 0}, {5, -1, 0, 0}, {5, 0, -1, 0}, {6, 6, 0, 0}, {6, 0, 6, 0}, {6, 0, 0, 6},
            {6, 0, 0, -1}, {6, 0, 0, -2}, {Integer.MAX_VALUE, 0, 0, 0}, {3, Integer.MIN_VALUE, 0, 0}};
        for (int[] w : wrong) {
            check.refused("join(" + w[0] + ", " + w[1] + ", " + w[2] + ", " + w[3] + ")", core,
                () -> core.join(w[0], w[1], w[2], w[3]), BAD);
        }
    }

    private static void mostTerms(Check check) {
        CoreTerms core = new CoreTerms();
        for (int i = 0; i < 400; i++) {
            check.due("number " + i, core.number(i), i);
        }
        check.refused("number", core, () -> core.number(1), FULL);
        check.refused("name", core, () -> core.name(1), FULL);
        check.refused("name that is BAD", core, () -> core.name(26), BAD);
        check.refused("function", core, () -> core.function(0, 0, 0), FULL);
        check.refused("function that is BAD", core, () -> core.function(0, 0, 400), BAD);
        check.refused("let", core, () -> core.let(0, 0, 0), FULL);
        check.refused("let that is BAD", core, () -> core.let(0, 0, 400), BAD);
        check.refused("call", core, () -> core.join(3, 0, 0, 0), FULL);
        check.refused("choice", core, () -> core.join(6, 0, 0, 399), FULL);
        check.refused("choice that is BAD", core, () -> core.join(6, 0, 0, 400), BAD);
        check.due("told(399, 3)", core.told(399, 3), 399);
        check.due("told(400, 3)", core.told(400, 3), BAD);
    }

    private static void mostSize(Check check) {
        CoreTerms core = new CoreTerms();
        int t = core.number(1);
        for (int i = 0; i < 8; i++) {
            t = core.join(5, t, t, 0);
        }
        int half = t;
        check.due("511", core.told(half, 1), 511);
        int small = half - 1;
        check.due("255", core.told(small, 1), 255);
        int of767 = core.join(5, half, small, 0);
        check.due("767", core.told(of767, 1), 767);
        int of127 = small - 1, of63 = small - 2, of31 = small - 3;
        int of895 = core.join(3, of767, of127, 0);
        check.due("895", core.told(of895, 1), 895);
        int of990 = core.join(6, of895, of63, of31);
        check.due("990", core.told(of990, 1), 990);
        int of998 = core.join(5, of990, 2, 0);
        check.due("998", core.told(of998, 1), 998);
        int of999 = core.function(0, 0, of998);
        check.due("999", core.told(of999, 1), 999);
        int of1000 = core.function(0, 0, of999);
        check.due("1000", core.told(of1000, 1), 1000);
        check.refused("a function of 1001", core, () -> core.function(0, 0, of1000), FULL);
        check.refused("a let of 1001", core, () -> core.let(0, 0, of999), FULL);
        check.refused("a sum of 1001", core, () -> core.join(5, of999, 0, 0), FULL);
        check.refused("a choice of 1001", core, () -> core.join(6, of998, 0, 0), FULL);
        check.due("a call of 1000", core.told(core.join(3, of998, 0, 0), 1), 1000);
        check.due("a let of 1000", core.told(core.let(3, 0, of998), 1), 1000);
    }

    private static void mostDepth(Check check) {
        CoreTerms core = new CoreTerms();
        int t = core.number(1);
        for (int depth = 2; depth <= 40; depth++) {
            t = core.function(0, 0, t);
            check.due("DEPTH", core.told(t, 2), depth);
        }
        int deepest = t;
        check.refused("function", core, () -> core.function(0, 0, deepest), FULL);
        check.refused("let", core, () -> core.let(0, deepest, 0), FULL);
        check.refused("let, the other", core, () -> core.let(0, 0, deepest), FULL);
        check.refused("call", core, () -> core.join(3, deepest, 0, 0), FULL);
        check.refused("sum", core, () -> core.join(5, 0, deepest, 0), FULL);
        check.refused("choice", core, () -> core.join(6, 0, 0, deepest), FULL);
        check.due("a call of DEPTH 40", core.told(core.join(3, deepest - 1, 0, 0), 2), 40);
    }

    private static void toldOf(Check check) {
        CoreTerms core = new CoreTerms();
        core.number(7);
        for (int what : new int[] {-1, 9, 10, Integer.MAX_VALUE, Integer.MIN_VALUE}) {
            check.due("told(0, " + what + ")", core.told(0, what), BAD);
        }
        for (int t : new int[] {-1, 1, 400, Integer.MAX_VALUE, Integer.MIN_VALUE}) {
            for (int what = 0; what < 9; what++) {
                check.due("told(" + t + ", " + what + ")", core.told(t, what), BAD);
            }
        }
    }

    private static void freeLetters(Check check) {
        CoreTerms core = new CoreTerms();
        check.due("7", core.free(Check.read(core, "7")), 0);
        check.due("a", core.free(Check.read(core, "a")), 1);
        check.due("z", core.free(Check.read(core, "z")), 1 << 25);
        check.due("(a b)", core.free(Check.read(core, "(a b)")), 3);
        check.due("\\a:i.(a b)", core.free(Check.read(core, "\\a:i.(a b)")), 2);
        check.due("[a=a](a+b)", core.free(Check.read(core, "[a=a](a+b)")), 3);
        check.due("[a=1](a+b)", core.free(Check.read(core, "[a=1](a+b)")), 2);
        check.due("{a?\\b:i.b:c}", core.free(Check.read(core, "{a?\\b:i.b:c}")), 5);
        check.due("(\\a:i.a a)", core.free(Check.read(core, "(\\a:i.a a)")), 1);
        int all = core.name(0);
        for (int x = 1; x < 26; x++) {
            all = core.join(5, all, core.name(x), 0);
        }
        check.due("all letters", core.free(all), (1 << 26) - 1);
        check.due("free(-1)", core.free(-1), BAD);
        check.due("free of one more", core.free(core.count(0)), BAD);
        check.due("free(MIN)", core.free(Integer.MIN_VALUE), BAD);
    }

    private static void usesOfNames(Check check) {
        CoreTerms core = new CoreTerms();
        int sum = Check.read(core, "((a+b)+(a+\\a:i.(a b)))");
        check.due("a in a sum", core.uses(sum, 0), 2);
        check.due("b in a sum", core.uses(sum, 1), 2);
        check.due("c in a sum", core.uses(sum, 2), 0);
        int let = Check.read(core, "[a=(a+a)](a+{a?b:a})");
        check.due("a in a let", core.uses(let, 0), 2);
        check.due("b in a let", core.uses(let, 1), 1);
        int other = Check.read(core, "[b=(a+a)](a+{a?b:a})");
        check.due("a in the other let", core.uses(other, 0), 5);
        check.due("b in the other let", core.uses(other, 1), 0);
        int shared = core.name(0);
        for (int i = 0; i < 8; i++) {
            shared = core.join(5, shared, shared, 0);
        }
        check.due("a part that stands in many places", core.uses(shared, 0), 256);
        check.due("x below 0", core.uses(sum, -1), BAD);
        check.due("x above z", core.uses(sum, 26), BAD);
        check.due("x far above", core.uses(sum, 32), BAD);
        check.due("no such term", core.uses(core.count(0), 0), BAD);
        check.due("no such term", core.uses(-1, 0), BAD);
    }

    private static void counts(Check check) {
        CoreTerms core = new CoreTerms();
        core.number(1);
        core.number(2);
        core.arrow(0, 0);
        core.arrow(1, 0);
        core.feed(0, 5);
        core.print(0);
        check.due("count(0)", core.count(0), 2);
        check.due("count(1)", core.count(1), 3);
        check.due("count(2)", core.count(2), 5);
        check.due("count(3)", core.count(3), 1);
        for (int what : new int[] {-1, 4, Integer.MAX_VALUE, Integer.MIN_VALUE}) {
            check.due("count(" + what + ")", core.count(what), BAD);
        }
    }

    private static void clears(Check check) {
        CoreTerms core = new CoreTerms();
        check.due("clear of none", core.clear(), 0);
        core.arrow(0, 0);
        core.declare(2, 1);
        int t = Check.read(core, "(1+c)");
        core.print(t);
        Check.feed(core, "c");
        check.due("clear", core.clear(), 3);
        check.due("TERMS", core.count(0), 0);
        check.due("TYPES", core.count(1), 2);
        check.due("THE TAPE", core.count(2), 1);
        check.due("THE PRINT", Check.printed(core), "(1+c)");
        check.due("told", core.told(0, 0), BAD);
        check.due("print", core.print(0), BAD);
        check.due("clear again", core.clear(), 0);
        check.due("read", core.read(), 0);
        check.due("what is DECLARED", core.type(0), 1);
        check.due("the new one is a name", core.told(0, 0), 1);
        for (int i = 1; i < 400; i++) {
            core.number(i);
        }
        check.due("clear of all", core.clear(), 400);
        check.due("room again", core.number(5), 0);
        check.due("which is a number", core.told(0, 3), 5);
    }
}
