/** Promises 18 to 21: step, run, ran, drop. */
public final class StepTest {
    private static final int BAD = CoreTerms.BAD, NONE = CoreTerms.NONE, FULL = CoreTerms.FULL;
    private static final String TWICE = "\\a:i.(a a)";

    public static void main(String[] args) {
        Check check = new Check("steps");
        steps(check);
        stepNumbers(check);
        stepFull(check);
        runs(check);
        runFull(check);
        drops(check);
        dropNumbers(check);
        dropFull(check);
        dropFullInEachPart(check);
        toTheFirstTerm(check);
        wrongs(check);
        check.end();
    }

    private static void steps(Check check) {
        String[][] rows = {
            {"(\\a:i.(a+1) 2)", "(2+1)"}, {"(\\a:i.b c)", "b"}, {"(\\a:i.a (\\b:i.b 1))", "(\\b:i.b 1)"},
            {"(\\a:i.\\b:i.a b)", "\\c:i.b"}, {"((\\a:i.a b) c)", "(b c)"}, {"(a (1+2))", "<-2>"},
            {"((1+2) (3+4))", "(3 (3+4))"}, {"[a=(1+2)](a+a)", "((1+2)+(1+2))"}, {"[a=a](a+1)", "(a+1)"},
            {"[a=1]b", "b"}, {"(1+2)", "3"}, {"((1+2)+(3+4))", "(3+(3+4))"}, {"(3+(3+4))", "(3+7)"},
            {"(a+(1+2))", "<-2>"}, {"(1+a)", "<-2>"}, {"(1+\\a:i.(1+1))", "<-2>"},
            {"(2147483647+1)", "-2147483648"}, {"(-2147483648+-1)", "2147483647"}, {"(5+-5)", "0"},
            {"{1?a:b}", "a"}, {"{0?a:b}", "b"}, {"{-1?a:b}", "a"}, {"{(1+2)?(1+1):c}", "{3?(1+1):c}"}, {"{a?1:2}", "<-2>"},
            {"{a?(1+1):(1+1)}", "<-2>"}, {"5", "<-2>"}, {"a", "<-2>"}, {"\\a:i.(1+1)", "<-2>"}, {"(5 (1+1))", "<-2>"},
            {"[a=\\b:i.(b c)]\\c:i.(a c)", "\\b:i.(\\b:i.(b c) b)"}};
        for (String[] row : rows) {
            CoreTerms core = new CoreTerms();
            int t = Check.read(core, row[0]);
            check.due("a step of " + row[0], Check.text(core, core.step(t)), row[1]);
            check.due("which stays", Check.text(core, t), row[0]);
        }
    }

    private static void stepNumbers(Check check) {
        CoreTerms core = new CoreTerms();
        int choice = Check.read(core, "{1?a:b}");
        check.due("a choice makes nothing", core.step(choice), 1);
        check.due("TERMS", core.count(0), 4);
        int sum = Check.read(core, "((1+2)+c)");
        int first = core.count(0);
        check.due("a sum within a sum", core.step(sum), first + 1);
        check.due("the inner first", core.told(first, 3), 3);
        check.due("the part that stays", core.told(first + 1, 7), core.told(sum, 7));
        check.due("again anew", core.step(sum), first + 3);
        int stuck = Check.read(core, "(a+(1+2))");
        check.refused("none", core, () -> core.step(stuck), NONE);
    }

    private static void stepFull(Check check) {
        CoreTerms core = new CoreTerms();
        int sum = Check.read(core, "((1+2)+c)");
        while (core.count(0) < 399) {
            core.number(0);
        }
        check.refused("room for one of two", core, () -> core.step(sum), FULL);
        int inner = (int) core.told(sum, 6);
        check.due("room for one", core.step(inner), 399);
        check.refused("no room", core, () -> core.step(inner), FULL);
        CoreTerms other = new CoreTerms();
        int t = other.name(0);
        for (int i = 0; i < 8; i++) {
            t = other.join(5, t, t, 0);
        }
        int let = other.let(0, other.join(5, 0, 0, 0), t - 1);
        int letMore = other.let(0, 2, t - 1);
        check.due("SIZE 511", other.told(other.step(let), 1), 511);
        check.due("SIZE 1023", other.step(letMore), FULL);
    }

    private static void runs(Check check) {
        CoreTerms core = new CoreTerms();
        int t = Check.read(core, "((1+2)+(3+4))");
        check.due("no step", core.run(t, 0), t);
        check.due("ran none", core.ran(), 0);
        check.due("one step", Check.text(core, core.run(t, 1)), "(3+(3+4))");
        check.due("ran one", core.ran(), 1);
        check.due("all steps", Check.text(core, core.run(t, 50)), "10");
        check.due("ran three", core.ran(), 3);
        check.due("just as many", Check.text(core, core.run(t, 3)), "10");
        int number = core.number(4);
        check.due("of a number", core.run(number, 50), number);
        check.due("ran none", core.ran(), 0);
        int first = core.number(1);
        int omega = core.join(3, Check.read(core, TWICE), first, 0);
        check.due("a call that is stuck", Check.text(core, core.run(omega, 50)), "(1 1)");
        check.due("ran one", core.ran(), 1);
        check.refused("n below 0", core, () -> core.run(t, -1), BAD);
        check.refused("n above 50", core, () -> core.run(t, 51), BAD);
        check.refused("n far above", core, () -> core.run(t, Integer.MAX_VALUE), BAD);
        check.refused("no such term", core, () -> core.run(core.count(0), 1), BAD);
        check.refused("no such term, below 0", core, () -> core.run(-1, 1), BAD);
        core.clear();
        int twice = Check.read(core, TWICE);
        int loop = core.join(3, twice, twice, 0);
        check.due("without an end", core.run(loop, 50), loop + 50);
        check.due("ran fifty", core.ran(), 50);
        check.due("a term a step", core.count(0), loop + 51);
        check.due("still the same text", Check.text(core, loop + 50), Check.text(core, loop));
    }

    private static void runFull(Check check) {
        CoreTerms core = new CoreTerms();
        int twice = Check.read(core, TWICE);
        int loop = core.join(3, twice, twice, 0);
        core.run(loop, 7);
        while (core.count(0) < 380) {
            core.number(0);
        }
        check.refused("no room for all", core, () -> core.run(loop, 21), FULL);
        check.due("ran as before", core.ran(), 7);
        check.due("just room", core.run(loop, 20), 399);
        check.due("ran", core.ran(), 20);
        check.refused("no room", core, () -> core.run(loop, 1), FULL);
        check.due("no step needs no room", core.run(loop, 0), loop);
        check.due("ran none", core.ran(), 0);
    }

    private static void drops(Check check) {
        String[][] rows = {
            {"[a=1]b", "b"}, {"[a=1]a", "[a=1]a"}, {"[a=a]b", "b"}, {"[a=1][b=a]c", "c"}, {"[a=1][b=a]b", "[a=1][b=a]b"},
            {"[a=1][b=a]a", "[a=1]a"}, {"[a=[b=1]2]a", "[a=2]a"}, {"\\a:i.[b=1]a", "\\a:i.a"}, {"([a=1]2+[b=3]b)", "(2+[b=3]b)"},
            {"{[a=1]2?[a=1]3:[a=1]4}", "{2?3:4}"}, {"[a=1]\\a:i.a", "\\a:i.a"}, {"[a=1][a=2]a", "[a=2]a"}, {"(a b)", "(a b)"},
            {"[a=1][a=a]a", "[a=1][a=a]a"}, {"7", "7"}, {"a", "a"}, {"([a=1]b [a=2]c)", "(b c)"}};
        for (String[] row : rows) {
            CoreTerms core = new CoreTerms();
            int t = Check.read(core, row[0]);
            int got = core.drop(t);
            check.due("lets of " + row[0], Check.text(core, got), row[1]);
            check.due("itself, if none goes: " + row[0], got == t ? 1 : 0, row[0].equals(row[1]) ? 1 : 0);
            check.due("which stays", Check.text(core, t), row[0]);
        }
    }

    private static void dropNumbers(Check check) {
        CoreTerms core = new CoreTerms();
        int t = Check.read(core, "[a=1]b");
        check.refused("what b became", core, () -> core.drop(t), 1);
        int sum = Check.read(core, "(([a=1]2+3)+[a=1]4)");
        int first = core.count(0);
        check.due("a sum in a sum", core.drop(sum), first + 1);
        check.due("the inner first", Check.text(core, first), "(2+3)");
        int gone = Check.read(core, "[c=([a=1]2+3)]4");
        int next = core.count(0);
        int got = core.drop(gone);
        check.due("a let that goes", core.told(got, 3), 4);
        check.due("what e became came ahead of that", core.count(0), next + 1);
        check.due("its text", Check.text(core, next), "(2+3)");
    }

    private static void dropFull(Check check) {
        CoreTerms core = new CoreTerms();
        int t = Check.read(core, "(([a=1]2+3)+[a=1]4)");
        int let = Check.read(core, "[a=1]b");
        while (core.count(0) < 399) {
            core.number(0);
        }
        check.refused("room for one of two", core, () -> core.drop(t), FULL);
        int inner = (int) core.told(t, 6);
        check.due("room for one", core.drop(inner), 399);
        check.refused("no room", core, () -> core.drop(inner), FULL);
        check.due("no need of room", core.drop(let), core.told(let, 7));
    }

    private static void dropFullInEachPart(Check check) {
        String[] texts = {"{([a=1]2+3)?4:5}", "{1?([a=1]2+3):5}", "{1?4:([a=1]2+3)}", "[b=([a=1]2+3)]b", "[b=1]([a=1]2+b)",
            "[b=1]([a=1]2+3)", "\\b:i.([a=1]2+3)", "[b=([a=1]2+3)]4"};
        for (String text : texts) {
            CoreTerms core = new CoreTerms();
            int t = Check.read(core, text);
            while (core.count(0) < 400) {
                core.number(0);
            }
            check.refused("no room: " + text, core, () -> core.drop(t), FULL);
        }
    }

    private static void toTheFirstTerm(Check check) {
        CoreTerms core = new CoreTerms();
        int sum = core.name(5);
        int one = core.number(1);
        int choice = core.join(6, one, sum, one);
        check.due("a step to TERM 0", core.step(choice), 0);
        check.due("a run to TERM 0", core.run(choice, 50), 0);
        check.due("ran one", core.ran(), 1);
        check.due("in a sum", Check.text(core, core.step(core.join(5, one, choice, 0))), "(1+f)");
        check.due("in a sum, ahead", Check.text(core, core.step(core.join(5, choice, one, 0))), "(f+1)");
        check.due("in a call", Check.text(core, core.step(core.join(3, choice, one, 0))), "(f 1)");
        check.due("in a choice", Check.text(core, core.step(core.join(6, choice, one, one))), "{f?1:1}");
        int inner = core.join(5, core.let(0, one, one), one, 0);
        int let = core.let(0, inner, 0);
        int before = core.count(0);
        check.due("a let dropped to TERM 0", core.drop(let), 0);
        check.due("what e became stays", core.count(0), before + 1);
        int function = core.function(0, 0, 0);
        check.due("a call to TERM 0", core.step(core.join(3, function, one, 0)), 0);
    }

    private static void wrongs(Check check) {
        CoreTerms core = new CoreTerms();
        core.number(1);
        for (int t : new int[] {-1, -2, 1, 400, Integer.MAX_VALUE, Integer.MIN_VALUE}) {
            check.refused("step(" + t + ")", core, () -> core.step(t), BAD);
            check.refused("drop(" + t + ")", core, () -> core.drop(t), BAD);
            check.refused("run(" + t + ", 1)", core, () -> core.run(t, 1), BAD);
        }
    }
}
