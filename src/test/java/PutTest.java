/** Promise 17: put. */
public final class PutTest {
    private static final int BAD = CoreTerms.BAD, FULL = CoreTerms.FULL;

    public static void main(String[] args) {
        Check check = new Check("put");
        texts(check);
        itself(check);
        orderOfTerms(check);
        letters(check);
        fulls(check);
        fullInEachPart(check);
        ofTheFirstTerm(check);
        wrongs(check);
        check.end();
    }

    private static void row(Check check, String t, int x, String u, String want) {
        CoreTerms core = new CoreTerms();
        int into = Check.read(core, t);
        int what = Check.read(core, u);
        check.due(u + " put for " + (char) ('a' + x) + " into " + t, Check.text(core, core.put(into, x, what)), want);
        check.due("which stays", Check.text(core, into), t);
    }

    private static void texts(Check check) {
        row(check, "a", 0, "7", "7");
        row(check, "b", 0, "7", "b");
        row(check, "(a+(a b))", 0, "(1+2)", "((1+2)+((1+2) b))");
        row(check, "{a?b:a}", 0, "c", "{c?b:c}");
        row(check, "\\b:i.a", 0, "7", "\\b:i.7");
        row(check, "\\a:i.a", 0, "7", "\\a:i.a");
        row(check, "\\b:i.(a b)", 0, "b", "\\c:i.(b c)");
        row(check, "\\b:i.a", 0, "b", "\\c:i.b");
        row(check, "\\b:(i>i).(a b)", 0, "(b+c)", "\\d:(i>i).((b+c) d)");
        row(check, "\\c:i.(b c)", 1, "c", "\\a:i.(c a)");
        row(check, "\\b:i.\\c:i.((a b) c)", 0, "b", "\\c:i.\\d:i.((b c) d)");
        row(check, "\\b:i.\\c:i.((a b) c)", 0, "(b c)", "\\d:i.\\e:i.(((b c) d) e)");
        row(check, "\\c:i.\\a:i.((c a) b)", 1, "c", "\\a:i.\\d:i.((a d) c)");
        row(check, "[b=a]b", 0, "7", "[b=7]b");
        row(check, "[b=a]b", 0, "b", "[b=b]b");
        row(check, "[a=a]a", 0, "7", "[a=7]a");
        row(check, "[b=a](a+b)", 0, "b", "[c=b](b+c)");
        row(check, "[b=1](a+b)", 0, "b", "[c=1](b+c)");
        row(check, "[b=1](a+b)", 0, "7", "[b=1](7+b)");
        row(check, "[b=1]c", 0, "7", "[b=1]c");
        row(check, "[a=b]a", 0, "7", "[a=b]a");
        row(check, "(\\a:i.a a)", 0, "7", "(\\a:i.a 7)");
    }

    private static void itself(Check check) {
        CoreTerms core = new CoreTerms();
        int a = core.name(0);
        int f = core.function(1, 0, a);
        check.due("a name for itself", core.put(f, 0, a), f);
        int other = core.name(0);
        check.refused("the one that stands there", core, () -> core.put(f, 0, a), f);
        check.due("another one of that name", core.put(f, 0, other), 3);
        int let = core.let(1, a, f);
        check.due("into a let", core.put(let, 0, a), let);
        check.due("no such name in it", core.put(let, 25, other), let);
        int half = core.join(5, a, other, 0);
        int got = core.put(half, 0, a);
        check.due("one part is another one", got, core.count(0) - 1);
        check.due("its parts", core.told(got, 6) * 100 + core.told(got, 7), a * 100 + a);
    }

    private static void orderOfTerms(Check check) {
        CoreTerms core = new CoreTerms();
        int t = Check.read(core, "[b=(a+1)](a b)");
        int u = Check.read(core, "b");
        int first = core.count(0);
        check.due("put", core.put(t, 0, u), first + 4);
        String[] due = {"(b+1)", "c", "(a c)", "(b c)"};
        for (int i = 0; i < due.length; i++) {
            check.due("what comes, " + i, Check.text(core, first + i), due[i]);
        }
        check.due("and the let", Check.text(core, first + 4), "[c=(b+1)](b c)");
        check.due("TERMS", core.count(0), first + 5);
    }

    private static void letters(Check check) {
        CoreTerms core = new CoreTerms();
        int body = core.name(0);
        for (int x = 1; x < 26; x++) {
            body = core.join(5, body, core.name(x), 0);
        }
        int f = core.function(1, 0, body);
        int g = core.function(1, 0, core.name(0));
        int b = core.name(1);
        check.refused("no letter is left", core, () -> core.put(f, 0, b), FULL);
        check.due("c is not needed", Check.text(core, core.put(g, 0, b)), "\\c:i.b");
        int withoutZ = core.name(0);
        for (int x = 1; x < 25; x++) {
            withoutZ = core.join(5, withoutZ, core.name(x), 0);
        }
        int h = core.function(1, 0, withoutZ);
        int got = core.put(h, 0, b);
        check.due("z is left", core.told(got, 4), 25);
        int z = core.name(25);
        int bz = core.join(5, b, z, 0);
        check.refused("z is in what is put", core, () -> core.put(h, 0, bz), FULL);
    }

    private static void fulls(Check check) {
        CoreTerms core = new CoreTerms();
        int t = core.name(0);
        for (int i = 0; i < 8; i++) {
            t = core.join(5, t, t, 0);
        }
        int big = t;
        int pair = core.join(5, 0, 0, 0);
        check.refused("SIZE", core, () -> core.put(big, 0, pair + 1), BAD);
        int three = core.join(5, pair, 0, 0);
        check.refused("SIZE", core, () -> core.put(big, 0, three), FULL);
        int five = core.number(5);
        check.due("each place anew", core.put(big, 0, five), core.count(0) - 1);
        check.due("so many", core.count(0), 12 + 255);
        check.refused("TERMS", core, () -> core.put(big, 0, five), FULL);
        core.clear();
        int deep = core.name(0);
        for (int i = 1; i < 40; i++) {
            deep = core.function(1, 0, deep);
        }
        int deepest = deep;
        int one = core.number(1);
        int sum = core.join(5, one, one, 0);
        check.refused("DEPTH", core, () -> core.put(deepest, 0, sum), FULL);
        check.due("DEPTH 40 is fine", core.told(core.put(deepest - 1, 0, sum), 2), 40);
        check.due("so is a leaf", core.told(core.put(deepest, 0, one), 2), 40);
    }

    private static void fullInEachPart(Check check) {
        String[] texts = {"{(a+1)?2:3}", "{1?(a+2):3}", "{1?2:(a+3)}", "[b=(a+1)]b", "[b=1](a+b)", "\\b:i.(a+b)", "((a+1) 2)", "(1 (a+2))"};
        for (String text : texts) {
            for (String put : new String[] {"7", "b"}) {
                CoreTerms core = new CoreTerms();
                int t = Check.read(core, text);
                int u = Check.read(core, put);
                while (core.count(0) < 399) {
                    core.number(0);
                }
                check.refused("room for one: " + put + " into " + text, core, () -> core.put(t, 0, u), FULL);
                core.number(0);
                check.refused("no room: " + put + " into " + text, core, () -> core.put(t, 0, u), FULL);
            }
        }
    }

    private static void ofTheFirstTerm(Check check) {
        CoreTerms core = new CoreTerms();
        int b = core.name(1);
        String[][] rows = {{"[c=1]a", "[c=1]b"}, {"[c=a]1", "[c=b]1"}, {"\\c:i.a", "\\c:i.b"}, {"(a a)", "(b b)"}, {"\\b:i.a", "\\c:i.b"},
            {"[b=1]a", "[c=1]b"}, {"{a?a:a}", "{b?b:b}"}};
        for (String[] row : rows) {
            check.due("TERM 0 into " + row[0], Check.text(core, core.put(Check.read(core, row[0]), 0, b)), row[1]);
        }
        check.due("itself", core.put(core.name(0), 0, b), b);
    }

    private static void wrongs(Check check) {
        CoreTerms core = new CoreTerms();
        core.name(0);
        int[][] wrong = {{1, 0, 0}, {-1, 0, 0}, {0, 26, 0}, {0, -1, 0}, {0, 0, 1}, {0, 0, -1}, {0, 32, 0},
            {Integer.MAX_VALUE, 0, 0}, {0, Integer.MIN_VALUE, 0}, {0, 0, Integer.MIN_VALUE}, {400, 0, 0}};
        for (int[] w : wrong) {
            check.refused("put(" + w[0] + ", " + w[1] + ", " + w[2] + ")", core,
                () -> core.put(w[0], w[1], w[2]), BAD);
        }
    }
}
