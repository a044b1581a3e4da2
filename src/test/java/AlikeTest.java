/** Promises 15 and 16: alike, least. */
public final class AlikeTest {
    private static final int BAD = CoreTerms.BAD;

    public static void main(String[] args) {
        Check check = new Check("alike");
        pairs(check);
        leasts(check);
        wrongs(check);
        check.end();
    }

    private static void pair(Check check, String one, String other, int want) {
        CoreTerms core = new CoreTerms();
        int t = Check.read(core, one);
        int u = Check.read(core, other);
        check.due(one + " and " + other, core.alike(t, u), want);
        check.due(other + " and " + one, core.alike(u, t), want);
        check.due(one + " and itself", core.alike(t, t), 1);
        check.due("least of " + other, core.least(u) == u ? 0 : 1, want);
    }

    private static void pairs(Check check) {
        pair(check, "7", "7", 1);
        pair(check, "7", "8", 0);
        pair(check, "a", "a", 1);
        pair(check, "a", "b", 0);
        pair(check, "a", "7", 0);
        pair(check, "\\a:i.a", "\\b:i.b", 1);
        pair(check, "\\a:i.a", "\\b:(i>i).b", 0);
        pair(check, "\\a:i.b", "\\b:i.b", 0);
        pair(check, "\\a:i.c", "\\b:i.c", 1);
        pair(check, "\\a:i.c", "\\b:i.d", 0);
        pair(check, "\\a:i.\\b:i.a", "\\b:i.\\a:i.b", 1);
        pair(check, "\\a:i.\\b:i.a", "\\a:i.\\b:i.b", 0);
        pair(check, "\\a:i.\\a:i.a", "\\a:i.\\b:i.b", 1);
        pair(check, "\\a:i.\\a:i.a", "\\a:i.\\b:i.a", 0);
        pair(check, "(\\a:i.a a)", "(\\b:i.b a)", 1);
        pair(check, "(\\a:i.a a)", "(\\b:i.b b)", 0);
        pair(check, "(\\a:i.a \\b:i.b)", "(\\c:i.c \\c:i.c)", 1);
        pair(check, "[a=1]a", "[b=1]b", 1);
        pair(check, "[a=a]a", "[b=a]b", 1);
        pair(check, "[a=a]a", "[b=b]b", 0);
        pair(check, "[a=1]\\b:i.(a+b)", "[b=1]\\a:i.(b+a)", 1);
        pair(check, "[a=1]\\b:i.(a+b)", "[b=1]\\a:i.(a+b)", 0);
        pair(check, "[a=\\a:i.a]a", "[b=\\c:i.c]b", 1);
        pair(check, "(1+2)", "(1 2)", 0);
        pair(check, "(1+2)", "(2+1)", 0);
        pair(check, "{a?b:c}", "{a?b:c}", 1);
        pair(check, "{a?b:c}", "{a?b:d}", 0);
        pair(check, "{\\a:i.a?b:c}", "{\\d:i.d?b:c}", 1);
        pair(check, "\\a:i.1", "[a=1]1", 0);
        pair(check, "[a=1]b", "[a=2]b", 0);
        pair(check, "(\\a:i.a+a)", "(\\a:i.a+a)", 1);
        pair(check, "\\b:i.a", "\\a:i.a", 0);
        pair(check, "\\a:i.z", "\\z:i.z", 0);
        pair(check, "\\a:i.\\b:i.\\c:i.c", "\\a:i.\\b:i.\\d:i.c", 0);
        pair(check, "\\a:i.\\b:i.\\c:i.\\d:i.((a b) (c d))", "\\d:i.\\c:i.\\b:i.\\a:i.((d c) (b a))", 1);
    }

    private static void leasts(Check check) {
        CoreTerms core = new CoreTerms();
        int b = core.name(1);
        int a = core.name(0);
        int first = core.function(0, 0, a);
        int second = core.function(1, 0, b);
        int third = core.function(2, 0, core.name(2));
        check.due("least of the first", core.least(first), first);
        check.due("least of the second", core.least(second), first);
        check.due("least of the third", core.least(third), first);
        check.due("least of a name", core.least(core.name(0)), a);
        check.due("least of a new number", core.least(core.number(3)), core.count(0) - 1);
        check.due("nothing came", core.count(0), 8);
    }

    private static void wrongs(Check check) {
        CoreTerms core = new CoreTerms();
        core.number(1);
        for (int t : new int[] {-1, 1, 400, Integer.MAX_VALUE, Integer.MIN_VALUE}) {
            check.due("alike(" + t + ", 0)", core.alike(t, 0), BAD);
            check.due("alike(0, " + t + ")", core.alike(0, t), BAD);
            check.due("least(" + t + ")", core.least(t), BAD);
        }
    }
}
