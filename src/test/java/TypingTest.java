/** Promises 13 and 14: type, fault. */
public final class TypingTest {
    private static final int BAD = CoreTerms.BAD, NONE = CoreTerms.NONE, FULL = CoreTerms.FULL;

    public static void main(String[] args) {
        Check check = new Check("typing");
        typed(check);
        faults(check);
        arrowsThatCome(check);
        order(check);
        latest(check);
        check.end();
    }

    private static String typeText(CoreTerms core, int type) {
        if (type < 0) {
            return "<" + type + ">";
        }
        if (type == 0) {
            return "i";
        }
        return "(" + typeText(core, core.side(type, 0)) + ">" + typeText(core, core.side(type, 1)) + ")";
    }

    private static void typed(Check check) {
        String[][] rows = {
            {"7", "i"}, {"\\a:i.a", "(i>i)"}, {"\\a:(i>i).a", "((i>i)>(i>i))"}, {"\\a:i.\\a:(i>i).a", "(i>((i>i)>(i>i)))"},
            {"\\a:i.\\b:(i>i).(b a)", "(i>((i>i)>i))"}, {"(\\a:i.\\b:i.(a+b) 1)", "(i>i)"},
            {"[a=\\b:i.b](a 2)", "i"}, {"[a=1][b=a](a+b)", "i"}, {"[a=\\b:i.b]a", "(i>i)"},
            {"[a=1][a=\\b:i.a](a 3)", "i"}, {"{1?\\a:i.a:\\b:i.7}", "(i>i)"}, {"{0?1:2}", "i"}, {"((1+2)+3)", "i"},
            {"(\\a:i.1 (\\a:(i>i).(a 2) \\a:i.a))", "i"}, {"\\z:i.[y=z]{y?z:y}", "(i>i)"},
            {"(\\a:(i>i).2 \\a:i.a)", "i"}, {"[a=\\a:i.a](a (a 1))", "i"}};
        for (String[] row : rows) {
            CoreTerms core = new CoreTerms();
            int t = Check.read(core, row[0]);
            int type = core.type(t);
            check.due("type of " + row[0], typeText(core, type), row[1]);
            check.due("fault(0) of " + row[0], core.fault(0), 0);
            check.due("fault(1) of " + row[0], core.fault(1), NONE);
            int types = core.count(1);
            check.due("type again", core.type(t), type);
            check.due("with no more TYPES", core.count(1), types);
        }
    }

    private static void fault(Check check, String text, int fault, String place) {
        CoreTerms core = new CoreTerms();
        core.arrow(0, 0);
        core.declare(25, 0);
        core.declare(24, 1);
        int t = Check.read(core, text);
        int types = core.count(1);
        check.due("type of " + text, core.type(t), NONE);
        check.due("fault(0) of " + text, core.fault(0), fault);
        check.due("fault(1) of " + text, Check.text(core, core.fault(1)), place);
        check.due("TYPES stay", core.count(1), types);
    }

    private static void faults(Check check) {
        fault(check, "a", 1, "a");
        fault(check, "(1+b)", 1, "b");
        fault(check, "[a=a]a", 1, "a");
        fault(check, "([a=1]a+a)", 1, "a");
        fault(check, "(\\a:i.a a)", 1, "a");
        fault(check, "(1 2)", 2, "1");
        fault(check, "(z b)", 2, "z");
        fault(check, "((y 1) 2)", 2, "(y 1)");
        fault(check, "(y y)", 3, "y");
        fault(check, "(y \\a:i.a)", 3, "\\a:i.a");
        fault(check, "(y (z z))", 2, "z");
        fault(check, "(y+b)", 3, "y");
        fault(check, "(b+y)", 1, "b");
        fault(check, "(1+y)", 3, "y");
        fault(check, "{y?b:c}", 3, "y");
        fault(check, "{1?b:c}", 1, "b");
        fault(check, "{1?2:c}", 1, "c");
        fault(check, "{1?2:y}", 3, "y");
        fault(check, "{1?y:2}", 3, "2");
        fault(check, "{1?\\a:i.1:\\a:(i>i).1}", 3, "\\a:(i>i).1");
        fault(check, "\\a:(i>i).(a+1)", 3, "a");
        fault(check, "\\z:(i>i).(1+z)", 3, "z");
        fault(check, "[y=1](y 2)", 2, "y");
        fault(check, "(\\a:i.\\b:i.\\c:i.1 d)", 1, "d");
        CoreTerms core = new CoreTerms();
        int one = core.number(1);
        int again = core.number(1);
        check.due("at which of two", core.type(core.join(3, again, one, 0)), NONE);
        check.due("the one that is called", core.fault(1), again);
    }

    private static void arrowsThatCome(Check check) {
        CoreTerms core = new CoreTerms();
        int t = Check.read(core, "(\\a:i.\\b:i.a 1)");
        check.due("none come by reading of i", core.count(1), 1);
        check.due("type", core.type(t), 1);
        check.due("they come as they are needed", core.count(1), 3);
        check.due("FROM of the outer", core.side(2, 0), 0);
        check.due("TO of the outer", core.side(2, 1), 1);
        int inner = Check.read(core, "(\\a:(i>(i>i)).1 \\a:i.\\a:i.a)");
        check.due("a term of INT", core.type(inner), 0);
        check.due("its arrows come too", core.count(1), 4);
    }

    private static void order(Check check) {
        CoreTerms core = new CoreTerms();
        int longest = 0;
        for (int i = 0; i < 9; i++) {
            longest = core.arrow(longest, 0);
        }
        core.declare(0, longest);
        int tooLong = Check.read(core, "\\b:i.a");
        check.due("FULL", core.type(tooLong), FULL);
        int unknown = core.name(2);
        int fullFirst = core.join(5, tooLong, unknown, 0);
        int faultFirst = core.join(5, unknown, tooLong, 0);
        int types = core.count(1);
        check.due("a FAULT", core.type(faultFirst), NONE);
        check.due("its kind", core.fault(0), 1);
        check.due("FULL ahead of a FAULT", core.type(fullFirst), FULL);
        check.due("FULL is no FAULT", core.fault(0), 0);
        check.due("nor at a TERM", core.fault(1), NONE);
        int some = Check.read(core, "[c=\\b:i.\\b:i.\\b:i.1]\\b:i.a");
        check.due("FULL behind arrows that came", core.type(some), FULL);
        check.due("which do not stay", core.count(1), types);
        int none = Check.read(core, "[c=\\b:i.\\b:i.\\b:i.1]d");
        check.due("a FAULT behind arrows that came", core.type(none), NONE);
        check.due("which do not stay either", core.count(1), types);
    }

    private static void latest(Check check) {
        CoreTerms core = new CoreTerms();
        int a = core.name(0);
        int one = core.number(1);
        core.type(a);
        for (int t : new int[] {-1, 2, 400, Integer.MAX_VALUE, Integer.MIN_VALUE}) {
            check.refused("type(" + t + ")", core, () -> core.type(t), BAD);
        }
        check.due("the FAULT stays behind BAD", core.fault(0), 1);
        check.due("and its TERM", core.fault(1), a);
        for (int what : new int[] {-1, 2, Integer.MAX_VALUE, Integer.MIN_VALUE}) {
            check.due("fault(" + what + ")", core.fault(what), BAD);
        }
        core.type(one);
        check.due("none behind a type", core.fault(0), 0);
        check.due("at none", core.fault(1), NONE);
    }
}
