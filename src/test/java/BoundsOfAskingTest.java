/** The boundary cases of promises 10 to 16, sentence by sentence: told, free, uses, type, fault, alike, least. */
public final class BoundsOfAskingTest {
    private static final int BAD = CoreTerms.BAD, NONE = CoreTerms.NONE, FULL = CoreTerms.FULL;
    private static final int MIN = Integer.MIN_VALUE, MAX = Integer.MAX_VALUE;
    private static final int RICH = Made.rich().count(0);
    private static final int ALL_LETTERS = (1 << 26) - 1;

    public static void main(String[] args) {
        Check check = new Check("bounds of asking");
        toldOfEachKind(check);
        toldWhereOthersWere(check);
        toldLeastAndMost(check);
        toldBad(check);
        freeBounds(check);
        freeWhereBound(check);
        freeBad(check);
        usesBounds(check);
        usesBad(check);
        typeBad(check);
        typeNone(check);
        typeOfCall(check);
        typeFullOfTypes(check);
        typeFullOfLength(check);
        typeInOrder(check);
        faultBefore(check);
        faultOfTheLatest(check);
        faultBad(check);
        alikeBounds(check);
        alikeBad(check);
        leastBounds(check);
        leastBad(check);
        check.end();
    }

    private static CoreTerms ofEachKind(CoreTerms core) {
        core.number(-7);
        core.name(25);
        core.function(3, 0, 1);
        core.join(3, 2, 0, 0);
        core.let(0, 0, 1);
        core.join(5, 1, 0, 0);
        core.join(6, 0, 1, 2);
        return core;
    }

    private static void toldOfEachKind(Check check) {
        CoreTerms core = ofEachKind(new CoreTerms());
        String[] words = {"0 its KIND", "1 SIZE", "2 DEPTH", "3 its n (of others 0)", "4 its x (NONE)", "5 the TYPE of a FUNCTION (NONE)",
            "6 .. 8 its PARTS (NONE)", "6 .. 8 its PARTS (NONE)", "6 .. 8 its PARTS (NONE)"};
        long[][] due = {{0, 1, 1, -7, NONE, NONE, NONE, NONE, NONE}, {1, 1, 1, 0, 25, NONE, NONE, NONE, NONE},
            {2, 2, 2, 0, 3, 0, 1, NONE, NONE}, {3, 4, 3, 0, NONE, NONE, 2, 0, NONE}, {4, 3, 2, 0, 0, NONE, 0, 1, NONE},
            {5, 3, 2, 0, NONE, NONE, 1, 0, NONE}, {6, 5, 3, 0, NONE, NONE, 0, 1, 2}};
        for (int t = 0; t < due.length; t++) {
            for (int what = 0; what < 9; what++) {
                check.sentence(10, words[what]);
                check.due("told(" + t + ", " + what + ")", core.told(t, what), due[t][what]);
            }
        }
    }

    /** TERMS that came where others were that went: nothing of those is told. */
    private static void toldWhereOthersWere(Check check) {
        check.sentence(10, "its n (of others 0), its x, TYPE, PARTS (NONE), whatever was there before");
        String due = Check.stateOf(ofEachKind(new CoreTerms()));
        CoreTerms numbers = new CoreTerms();
        for (int i = 0; i < 10; i++) {
            numbers.number(MIN);
        }
        numbers.clear();
        check.due("NUMBERS that are cleared", Check.stateOf(ofEachKind(numbers)), due);
        CoreTerms choices = new CoreTerms();
        choices.number(1);
        for (int i = 1; i < 10; i++) {
            choices.join(6, i - 1, 0, 0);
        }
        choices.clear();
        check.due("CHOICES that are cleared", Check.stateOf(ofEachKind(choices)), due);
        CoreTerms functions = new CoreTerms();
        functions.name(0);
        for (int i = 1; i < 10; i++) {
            functions.function(i, 0, i - 1);
        }
        functions.clear();
        check.due("FUNCTIONS that are cleared", Check.stateOf(ofEachKind(functions)), due);
        CoreTerms refused = new CoreTerms();
        Check.read(refused, "{(5+6)?(7+8):(9+10)!");
        check.due("NUMBERS of a read() that told a place", Check.stateOf(ofEachKind(refused)), due);
    }

    private static void toldLeastAndMost(Check check) {
        check.sentence(10, "the least and the most of each");
        CoreTerms core = new CoreTerms();
        for (int n : new int[] {MIN, MAX, 0, -1, -2, -3}) {
            check.due("n " + n, core.told(core.number(n), 3), n);
        }
        check.due("SIZE 1000", core.told(Made.ofSize(core, 1000), 1), 1000);
        check.due("DEPTH 40", core.told(Made.ofDepth(core, 40), 2), 40);
        CoreTerms full = Made.fullOfTypes(0);
        check.due("TYPE 39", full.told(full.function(25, 39, full.name(0)), 5), 39);
        CoreTerms last = Made.fullOfTerms(0);
        check.due("TERM 399", last.told(399, 1), 1);
        check.due("there is no TERM 400", last.told(400, 1), BAD);
    }

    private static void toldBad(Check check) {
        check.sentence(10, "BAD (as a long)");
        for (int what = 0; what < 9; what++) {
            int one = what;
            for (int wrong : Made.notBelow(RICH)) {
                check.refused("told(" + wrong + ", " + what + ")", Made::rich, core -> core.told(wrong, one), -1L);
            }
        }
        for (int wrong : Made.notBelow(9)) {
            check.refused("told(0, " + wrong + ")", Made::rich, core -> core.told(0, wrong), -1L);
            check.refused("told(" + (RICH - 1) + ", " + wrong + ")", Made::rich, core -> core.told(RICH - 1, wrong), -1L);
        }
        CoreTerms core = Made.rich();
        core.clear();
        check.due("of one that is gone", core.told(0, 0), -1L);
    }

    private static void freeBounds(Check check) {
        check.sentence(11, "as the sum of 2^x");
        CoreTerms core = new CoreTerms();
        check.due("none", core.free(core.number(MAX)), 0);
        for (int x = 0; x < 26; x++) {
            check.due("the letter " + x + " alone", core.free(core.name(x)), 1 << x);
        }
        check.due("a twice is a once", core.free(core.join(5, 1, 1, 0)), 1);
        int all = Made.ofLetters(core, 0, 25);
        check.due("all", core.free(all), ALL_LETTERS);
        check.due("all but a", core.free(core.function(0, 0, all)), ALL_LETTERS - 1);
        check.due("all but z", core.free(core.function(25, 0, all)), ALL_LETTERS - (1 << 25));
        int none = all;
        for (int x = 0; x < 14; x++) {
            none = core.function(x, 0, none);
        }
        check.due("fourteen are bound, at DEPTH 40", core.free(none), ALL_LETTERS - ((1 << 14) - 1));
        check.due("which is the most", core.told(none, 2), 40);
    }

    private static void freeWhereBound(Check check) {
        check.sentence(11, "a LET binds in b (not in e)");
        Object[][] rows = {{"[a=a]1", 1}, {"[a=1]a", 0}, {"[a=a]a", 1}, {"[a=b]a", 2}, {"[a=1]b", 2}, {"[z=z]z", 1 << 25},
            {"[a=[a=a]a]a", 1}, {"[a=1][a=a]a", 0}};
        rows(check, rows);
        check.sentence(11, "a FUNCTION binds x in b");
        Object[][] functions = {{"\\a:i.a", 0}, {"\\a:i.b", 2}, {"(\\a:i.a a)", 1}, {"(a \\a:i.a)", 1}, {"\\a:i.\\a:i.a", 0},
            {"{\\a:i.a?a:1}", 1}, {"{\\a:i.a?1:a}", 1}, {"{a?\\a:i.a:1}", 1}, {"\\z:i.(z y)", 1 << 24}};
        rows(check, functions);
    }

    private static void rows(Check check, Object[][] rows) {
        for (Object[] row : rows) {
            CoreTerms core = new CoreTerms();
            check.due("free of " + row[0], core.free(Check.read(core, (String) row[0])), (Integer) row[1]);
        }
    }

    private static void freeBad(Check check) {
        check.sentence(11, "BAD");
        for (int wrong : Made.notBelow(RICH)) {
            check.refused("free(" + wrong + ")", Made::rich, core -> core.free(wrong), BAD);
        }
        check.due("the last TERM", Made.fullOfTerms(0).free(399), 0);
        check.due("one more", Made.fullOfTerms(0).free(400), BAD);
    }

    private static void usesBounds(Check check) {
        check.sentence(12, "How many FREE NAMES x there are");
        CoreTerms core = new CoreTerms();
        int most = Made.ofUses(core, 25, 500);
        check.due("SIZE 999", core.told(most, 1), 999);
        check.due("the most", core.uses(most, 25), 500);
        check.due("none of another letter", core.uses(most, 0), 0);
        check.due("none, if it is bound", core.uses(core.function(25, 0, most), 25), 0);
        check.due("as many, if another one is", core.uses(core.function(24, 0, most), 25), 500);
        check.due("of a NUMBER", core.uses(core.number(1), 0), 0);
        check.due("of a NAME", core.uses(core.name(0), 0), 1);
        check.due("of another NAME", core.uses(core.name(0), 1), 0);
        Object[][] rows = {{"[a=(a+a)](a+a)", 2}, {"[b=(a+a)](a+a)", 4}, {"[a=1](a+a)", 0}, {"[a=a]1", 1}, {"{a?a:a}", 3},
            {"({a?1:2}+{3?a:{4?5:a}})", 3}, {"(\\a:i.a a)", 1}, {"(a \\b:i.a)", 2}, {"\\b:i.\\a:i.(a b)", 0}, {"[b=\\a:i.a][a=a](a+b)", 1}};
        for (Object[] row : rows) {
            check.due("a in " + row[0], core.uses(Check.read(core, (String) row[0]), 0), (Integer) row[1]);
        }
        CoreTerms deep = new CoreTerms();
        check.due("at DEPTH 40", deep.uses(Made.ofDepth(deep, 40), 0), 1);
    }

    private static void usesBad(Check check) {
        check.sentence(12, "BAD");
        for (int wrong : Made.notBelow(RICH)) {
            check.refused("uses(" + wrong + ", 0)", Made::rich, core -> core.uses(wrong, 0), BAD);
        }
        for (int wrong : Made.NO_LETTERS) {
            check.refused("uses(0, " + wrong + ")", Made::rich, core -> core.uses(0, wrong), BAD);
            check.refused("uses of a LET, " + wrong, Made::rich, core -> core.uses(RICH - 1, wrong), BAD);
        }
    }

    private static void typeBad(Check check) {
        check.sentence(13, "BAD");
        for (int wrong : Made.notBelow(RICH)) {
            check.refused("type(" + wrong + ")", Made::rich, core -> core.type(wrong), BAD);
        }
        CoreTerms full = Made.fullOfTerms(0);
        check.due("the last TERM", full.type(399), 0);
        check.due("one more", full.type(400), BAD);
    }

    /** What stands ahead of the FAULT needs ARROWS, which must not stay. */
    private static void typeNone(Check check) {
        String[] faulty = {"a", "(1 2)", "(\\a:i.a \\a:i.a)", "(\\a:i.a+1)", "(1+\\a:i.a)", "{\\a:i.a?1:2}", "{1?2:\\a:i.a}",
            "{1?\\a:i.a:2}", "[a=1](a a)", "\\a:i.\\b:i.c"};
        int[] faults = {1, 2, 3, 3, 3, 3, 3, 3, 2, 1};
        for (int i = 0; i < faulty.length; i++) {
            check.sentence(13, "NONE: a FAULT");
            CoreTerms core = new CoreTerms();
            int t = Check.read(core, "[z=\\a:i.\\b:i.\\c:i.1]" + faulty[i]);
            check.due("type of " + faulty[i], core.type(t), NONE);
            check.due("its FAULT", core.fault(0), faults[i]);
            check.sentence(13, "ARROWS that it needs come, if it has one");
            check.due("TYPES behind " + faulty[i], core.count(1), 1);
            check.due("TERMS", core.count(0), t + 1);
        }
    }

    private static void typeOfCall(Check check) {
        check.sentence(13, "CALL: of a, FAULT 3 (at a), if that is not its FROM; its TO");
        CoreTerms core = new CoreTerms();
        int given = core.arrow(0, 0), back = core.arrow(0, given), other = core.arrow(given, 0), f = core.arrow(given, back);
        int[] types = {0, given, back, other, f};
        for (int x = 0; x < types.length; x++) {
            core.name(x);
            core.declare(x, types[x]);
        }
        for (int a = 0; a < types.length; a++) {
            int call = core.join(3, 4, a, 0);
            check.due("of TYPE " + types[a], core.type(call), types[a] == given ? back : NONE);
            check.due("its FAULT", core.fault(0), types[a] == given ? 0 : 3);
            check.due("at a", core.fault(1), types[a] == given ? NONE : a);
        }
        check.due("TO is INT", core.type(core.join(3, 3, 1, 0)), 0);
        check.due("FROM is INT", core.type(core.join(3, 2, 0, 0)), given);
        check.due("no ARROW", core.type(core.join(3, 0, 4, 0)), NONE);
        check.due("its FAULT", core.fault(0), 2);
        check.sentence(13, "ARROWS that it needs come, if it has one: also if that is INT");
        CoreTerms anew = new CoreTerms();
        check.due("a CALL of a FUNCTION", anew.type(Check.read(anew, "(\\a:i.a 1)")), 0);
        check.due("TYPES", anew.count(1), 2);
    }

    private static void typeFullOfTypes(Check check) {
        check.sentence(13, "FULL: TYPES");
        // ((i>i)>(i>i)) is there; each function of INT around it needs one more
        String needsOne = "\\a:i.\\b:(i>i).b", needsTwo = "\\c:i." + needsOne;
        CoreTerms core = Made.fullOfTypes(0);
        int there = Check.read(core, "\\b:(i>i).b"), one = Check.read(core, needsOne);
        check.due("an ARROW that is there", core.type(there), 8);
        check.refused("one more", core, () -> core.type(one), FULL);
        check.due("TYPES", core.count(1), 40);
        CoreTerms room = Made.fullOfTypes(1);
        int two = Check.read(room, needsTwo);
        check.refused("two more, room for one", room, () -> room.type(two), FULL);
        check.due("none of them stays", room.count(1), 39);
        check.due("one more, room for one", room.type(Check.read(room, needsOne)), 39);
        check.due("TYPES", room.count(1), 40);
        check.due("again", room.type(Check.read(room, needsOne)), 39);
        CoreTerms both = Made.fullOfTypes(2);
        check.due("two more, room for two", both.type(Check.read(both, needsTwo)), 39);
        check.due("the inner came first", both.side(39, 1), 38);
        CoreTerms within = Made.fullOfTypes(0);
        int call = Check.read(within, "(" + needsOne + " 1)");
        check.refused("an ARROW of a PART alone", within, () -> within.type(call), FULL);
    }

    private static void typeFullOfLength(Check check) {
        check.sentence(13, "FULL: LENGTH");
        CoreTerms core = new CoreTerms();
        int of33 = Made.ofArrows(core, 8), of37 = core.arrow(of33, 0);
        core.declare(0, of33);
        core.declare(1, of37);
        int one = core.number(1), a = core.name(0), b = core.name(1);
        int ends = core.function(2, 0, a), more = core.function(2, 0, b), from = core.function(2, of37, one);
        check.due("LENGTH 37", core.type(ends), 10);
        check.refused("LENGTH 41, by TO", core, () -> core.type(more), FULL);
        check.refused("LENGTH 41, by FROM", core, () -> core.type(from), FULL);
        check.due("an ARROW of LENGTH 37 that is there", core.type(core.function(2, of33, one)), of37);
        check.due("the NAME alone", core.type(b), of37);
        CoreTerms deep = new CoreTerms();
        int t = Made.ofDepth(deep, 11);
        deep.declare(0, 0);
        check.due("nine ARROWS", deep.type(t - 1), 9);
        check.refused("ten", deep, () -> deep.type(t), FULL);
        CoreTerms anew = new CoreTerms();
        anew.declare(0, 0);
        int again = Made.ofDepth(anew, 11);
        check.due("ten at once", anew.type(again), FULL);
        check.due("none of them stays", anew.count(1), 1);
    }

    private static void typeInOrder(Check check) {
        check.sentence(13, "gone through in order: FULL or a FAULT, whichever comes first");
        CoreTerms core = new CoreTerms();
        core.declare(0, Made.ofArrows(core, 9));
        String full = "\\b:i.a", fault = "(1 2)";
        String[] pairs = {"(X+Y)", "(X Y)", "[c=X]Y", "{X?1:Y}", "{X?Y:1}", "{1?X:Y}"};
        for (String pair : pairs) {
            int fullFirst = Check.read(core, pair.replace("X", full).replace("Y", fault));
            check.due("FULL first in " + pair, core.type(fullFirst), FULL);
            int faultFirst = Check.read(core, pair.replace("X", fault).replace("Y", full));
            check.due("a FAULT first in " + pair, core.type(faultFirst), NONE);
            check.due("it is", core.fault(0), 2);
        }
    }

    private static void faultBefore(Check check) {
        check.sentence(14, "0, NONE before");
        CoreTerms core = new CoreTerms();
        check.due("fault(0)", core.fault(0), 0);
        check.due("fault(1)", core.fault(1), NONE);
        core.name(0);
        core.step(0);
        core.type(1);
        check.due("fault(0) behind BAD alone", core.fault(0), 0);
        check.due("fault(1) behind BAD alone", core.fault(1), NONE);
    }

    private static void faultIs(Check check, CoreTerms core, String row, int fault, int at) {
        check.due(row + ": fault(0)", core.fault(0), fault);
        check.due(row + ": fault(1)", core.fault(1), at);
    }

    private static void faultOfTheLatest(Check check) {
        CoreTerms core = new CoreTerms();
        core.declare(25, Made.ofArrows(core, 9));
        int a = core.name(0), one = core.number(1), f = core.function(1, 0, one), full = core.function(1, 0, core.name(25));
        int call = core.join(3, one, a, 0), sum = core.join(5, one, f, 0);
        check.sentence(14, "the FAULT, the TERM at which it is");
        check.due("FAULT 1", core.type(a), NONE);
        faultIs(check, core, "a NAME, TERM 0", 1, a);
        check.due("FAULT 2", core.type(call), NONE);
        faultIs(check, core, "a CALL", 2, one);
        check.due("FAULT 3", core.type(sum), NONE);
        faultIs(check, core, "a SUM", 3, f);
        check.sentence(14, "Of the latest type() that was not BAD");
        for (int wrong : Made.notBelow(core.count(0))) {
            check.due("type(" + wrong + ")", core.type(wrong), BAD);
            faultIs(check, core, "behind BAD", 3, f);
        }
        core.step(sum);
        core.drop(a);
        Check.read(core, "!");
        faultIs(check, core, "behind other calls", 3, f);
        check.sentence(14, "0: none, or FULL; NONE");
        check.due("a type", core.type(one), 0);
        faultIs(check, core, "behind a type", 0, NONE);
        core.type(sum);
        check.due("FULL", core.type(full), FULL);
        faultIs(check, core, "behind FULL", 0, NONE);
        core.type(1000);
        faultIs(check, core, "behind BAD, behind FULL", 0, NONE);
        core.type(sum);
        core.clear();
        faultIs(check, core, "behind clear()", 3, f);
    }

    private static void faultBad(Check check) {
        check.sentence(14, "BAD");
        for (int wrong : Made.notBelow(2)) {
            check.refused("fault(" + wrong + ")", Made::rich, core -> core.fault(wrong), BAD);
            check.refused("fault(" + wrong + ") before", CoreTerms::new, core -> core.fault(wrong), BAD);
        }
    }

    private static void alike(Check check, String one, String other, int want) {
        CoreTerms core = new CoreTerms();
        int t = Check.read(core, one), u = Check.read(core, other);
        check.due(one + " and " + other, core.alike(t, u), want);
        check.due(other + " and " + one, core.alike(u, t), want);
    }

    private static void alikeBounds(Check check) {
        check.sentence(15, "bound by the same FUNCTION, LET (counted from the outside) in both");
        alike(check, "\\a:i.\\b:i.(a b)", "\\y:i.\\z:i.(y z)", 1);
        alike(check, "\\a:i.\\b:i.(a b)", "\\y:i.\\z:i.(z y)", 0);
        alike(check, "\\a:i.[a=a]a", "\\a:i.[b=a]b", 1);
        alike(check, "\\a:i.[a=a]a", "\\a:i.[b=a]a", 0);
        alike(check, "\\a:i.\\a:i.a", "\\a:i.\\b:i.a", 0);
        alike(check, "\\a:i.(\\a:i.1+a)", "\\b:i.(\\b:i.1+b)", 1);
        alike(check, "\\a:i.(\\b:i.1+a)", "\\b:i.(\\a:i.1+b)", 1);
        alike(check, "\\a:i.(\\b:i.1+b)", "\\b:i.(\\a:i.1+a)", 0);
        alike(check, "\\a:i.(\\a:i.1+b)", "\\b:i.(\\a:i.1+b)", 0);
        alike(check, "(\\a:i.1+a)", "(\\b:i.1+a)", 1);
        alike(check, "(\\a:i.1+a)", "(\\b:i.1+b)", 0);
        alike(check, "([a=1]a+a)", "([b=1]b+a)", 1);
        alike(check, "([a=1]a+a)", "([b=1]b+b)", 0);
        alike(check, "\\a:i.\\b:i.\\c:i.(a (b c))", "\\c:i.\\a:i.\\b:i.(c (a b))", 1);
        alike(check, "\\a:i.\\b:i.\\c:i.(a (b c))", "\\c:i.\\a:i.\\b:i.(c (b a))", 0);
        check.sentence(15, "the same, in each PART");
        alike(check, "{1?2:3}", "{0?2:3}", 0);
        alike(check, "{1?2:3}", "{1?0:3}", 0);
        alike(check, "{1?2:3}", "{1?2:0}", 0);
        alike(check, "(1 2)", "(0 2)", 0);
        alike(check, "(1 2)", "(1 0)", 0);
        alike(check, "[a=1]2", "[a=0]2", 0);
        alike(check, "[a=1]2", "[a=1]0", 0);
        check.sentence(15, "or FREE and the same in both");
        alike(check, "a", "z", 0);
        alike(check, "z", "z", 1);
        alike(check, "\\a:i.b", "\\b:i.b", 0);
        alike(check, "\\b:i.a", "\\b:i.b", 0);
        alike(check, "\\y:i.z", "\\y:i.y", 0);
        alike(check, "[a=a]1", "[b=b]1", 0);
        alike(check, "[a=c]1", "[b=c]1", 1);
        check.sentence(15, "TYPES of FUNCTIONS are the same");
        alike(check, "\\a:i.1", "\\a:(i>i).1", 0);
        alike(check, "\\a:(i>(i>i)).1", "\\a:((i>i)>i).1", 0);
        alike(check, "\\a:(i>i).1", "\\b:(i>i).1", 1);
        check.sentence(15, "the same: KINDS, NUMBERS");
        alike(check, "2147483647", "-2147483648", 0);
        alike(check, "0", "0", 1);
        alike(check, "(a+b)", "(a b)", 0);
        alike(check, "(\\a:i.a+1)", "([a=1]a+1)", 0);
        check.sentence(15, "at DEPTH 40");
        String ahead = "\\a:i.".repeat(39), other = "\\b:i.".repeat(39);
        alike(check, ahead + "a", other + "b", 1);
        alike(check, ahead + "b", other + "a", 0);
        alike(check, ahead + "c", other + "c", 1);
        alike(check, "\\c:i." + "\\a:i.".repeat(38) + "c", "\\b:i." + "\\a:i.".repeat(38) + "b", 1);
        alike(check, "\\c:i." + "\\a:i.".repeat(38) + "c", "\\b:i." + "\\c:i.".repeat(38) + "c", 0);
        CoreTerms core = new CoreTerms();
        int a = Made.ofSize(core, 1000), b = Made.ofSize(core, 1000);
        check.due("of SIZE 1000", core.alike(a, b), 1);
        check.due("of SIZE 999", core.alike(a, b - 1), 0);
    }

    private static void alikeBad(Check check) {
        check.sentence(15, "BAD");
        for (int wrong : Made.notBelow(RICH)) {
            check.refused("alike(" + wrong + ", 0)", Made::rich, core -> core.alike(wrong, 0), BAD);
            check.refused("alike(0, " + wrong + ")", Made::rich, core -> core.alike(0, wrong), BAD);
            check.refused("alike(" + wrong + ", " + wrong + ")", Made::rich, core -> core.alike(wrong, wrong), BAD);
        }
        CoreTerms full = Made.fullOfTerms(0);
        check.due("the last two TERMS", full.alike(398, 399), 1);
        check.due("one more", full.alike(399, 400), BAD);
    }

    private static void leastBounds(Check check) {
        check.sentence(16, "The least TERM that is ALIKE");
        CoreTerms core = Made.fullOfTerms(1);
        check.due("of the first", core.least(0), 0);
        check.due("of the last but one", core.least(398), 0);
        check.due("the last is like none", core.least(core.number(1)), 399);
        CoreTerms names = new CoreTerms();
        names.name(0);
        names.name(1);
        check.due("f of a", names.function(0, 0, 0), 2);
        check.due("f of b", names.function(1, 0, 1), 3);
        check.due("not the same NAME", names.least(1), 1);
        check.due("another NAME, bound", names.least(3), 2);
        names.name(1);
        check.due("behind the TERMS of a FUNCTION", names.least(4), 1);
        check.sentence(16, "The least TERM: of those that there are");
        names.clear();
        names.number(7);
        names.name(1);
        check.due("one that is gone does not count", names.least(1), 1);
    }

    private static void leastBad(Check check) {
        check.sentence(16, "BAD");
        for (int wrong : Made.notBelow(RICH)) {
            check.refused("least(" + wrong + ")", Made::rich, core -> core.least(wrong), BAD);
        }
        check.due("one more", Made.fullOfTerms(0).least(400), BAD);
    }
}
