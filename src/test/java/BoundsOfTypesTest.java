/** The boundary cases of promises 1 to 4, 27 and 28, sentence by sentence: a new object, arrow, side, declare, count, clear. */
public final class BoundsOfTypesTest {
    private static final int BAD = CoreTerms.BAD, NONE = CoreTerms.NONE, FULL = CoreTerms.FULL;

    public static void main(String[] args) {
        Check check = new Check("bounds of types");
        newObjectHasNothing(check);
        newObjectRefusesTerms(check);
        newObjectIsAlone(check);
        lastOf512Calls(check);
        arrowBad(check);
        arrowOneForEachTwo(check);
        arrowFullOfTypes(check);
        arrowFullOfLength(check);
        sideBad(check);
        sideNone(check);
        declareBounds(check);
        declareNone(check);
        declareBad(check);
        countBounds(check);
        countBad(check);
        clearOfNone(check);
        clearOfAll(check);
        clearKeeps(check);
        check.end();
    }

    private static void newObjectHasNothing(Check check) {
        CoreTerms core = new CoreTerms();
        check.sentence(1, "INT alone");
        check.due("count(1)", core.count(1), 1);
        check.due("side(0, 0)", core.side(0, 0), NONE);
        check.due("side(1, 0)", core.side(1, 0), BAD);
        check.sentence(1, "no TERMS");
        check.due("count(0)", core.count(0), 0);
        check.sentence(1, "nothing in THE PRINT");
        check.due("count(3)", core.count(3), 0);
        check.due("at(0)", core.at(0), BAD);
        check.due("copy()", core.copy(), 0);
        check.sentence(1, "nothing on THE TAPE");
        check.due("count(2)", core.count(2), 0);
        check.due("read()", core.read(), -10);
        check.sentence(1, "a new object has no FAULT and ran no STEPS");
        check.due("fault(0)", core.fault(0), 0);
        check.due("fault(1)", core.fault(1), NONE);
        check.due("ran()", core.ran(), 0);
        check.sentence(1, "nothing DECLARED");
        for (int x = 0; x < 26; x++) {
            check.due("type of the letter " + x, core.type(core.name(x)), NONE);
            check.due("its FAULT", core.fault(0), 1);
        }
    }

    private static void newObjectRefusesTerms(Check check) {
        check.sentence(1, "no TERMS: each call of TERM 0 is BAD");
        CoreTerms core = new CoreTerms();
        check.due("function", core.function(0, 0, 0), BAD);
        check.due("let", core.let(0, 0, 0), BAD);
        for (int kind : new int[] {3, 5, 6}) {
            check.due("join " + kind, core.join(kind, 0, 0, 0), BAD);
        }
        check.due("told", core.told(0, 0), BAD);
        check.due("free", core.free(0), BAD);
        check.due("uses", core.uses(0, 0), BAD);
        check.due("type", core.type(0), BAD);
        check.due("alike", core.alike(0, 0), BAD);
        check.due("least", core.least(0), BAD);
        check.due("put", core.put(0, 0, 0), BAD);
        check.due("step", core.step(0), BAD);
        check.due("run", core.run(0, 0), BAD);
        check.due("drop", core.drop(0), BAD);
        check.due("print", core.print(0), BAD);
        check.due("count(0)", core.count(0), 0);
    }

    private static void newObjectIsAlone(Check check) {
        check.sentence(1, "a new object, beside one that is used");
        String before = Check.stateOf(new CoreTerms());
        CoreTerms used = Made.rich();
        check.due("the new one", Check.stateOf(new CoreTerms()), before);
        check.due("the used one", used.count(1), 3);
    }

    private static void lastOf512Calls(Check check) {
        check.sentence(1, "at most 512 calls: the last of them is still answered");
        CoreTerms core = new CoreTerms();
        for (int call = 1; call <= 400; call++) {
            check.due("call " + call, core.number(call), call - 1);
        }
        for (int call = 401; call <= 510; call++) {
            check.due("call " + call, core.number(0), FULL);
        }
        check.due("call 511", core.clear(), 400);
        check.due("call 512", core.number(7), 0);
    }

    private static void arrowBad(Check check) {
        check.sentence(2, "BAD");
        for (int wrong : Made.notBelow(3)) {
            check.refused("arrow(" + wrong + ", 0)", Made::rich, core -> core.arrow(wrong, 0), BAD);
            check.refused("arrow(0, " + wrong + ")", Made::rich, core -> core.arrow(0, wrong), BAD);
            check.refused("arrow(" + wrong + ", " + wrong + ")", Made::rich, core -> core.arrow(wrong, wrong), BAD);
        }
        CoreTerms core = new CoreTerms();
        check.due("of one that has not come", core.arrow(1, 0), BAD);
        check.due("now it comes", core.arrow(0, 0), 1);
        check.due("of one that has come", core.arrow(1, 0), 2);
        check.sentence(2, "BAD, with no room");
        for (int wrong : Made.notBelow(40)) {
            check.refused("arrow(" + wrong + ", 39)", () -> Made.fullOfTypes(0), full -> full.arrow(wrong, 39), BAD);
            check.refused("arrow(39, " + wrong + ")", () -> Made.fullOfTypes(0), full -> full.arrow(39, wrong), BAD);
        }
    }

    private static void arrowOneForEachTwo(Check check) {
        check.sentence(2, "one for each two");
        CoreTerms core = new CoreTerms();
        check.due("(i>i)", core.arrow(0, 0), 1);
        check.due("(i>(i>i))", core.arrow(0, 1), 2);
        check.due("((i>i)>i), the other way round", core.arrow(1, 0), 3);
        check.due("((i>i)>(i>i))", core.arrow(1, 1), 4);
        for (int type = 1; type <= 4; type++) {
            check.due("again", core.arrow(core.side(type, 0), core.side(type, 1)), type);
        }
        check.due("TYPES", core.count(1), 5);
    }

    private static void arrowFullOfTypes(Check check) {
        check.sentence(2, "FULL: TYPES, 40 at most");
        CoreTerms core = Made.fullOfTypes(1);
        check.due("39 TYPES", core.count(1), 39);
        check.due("the 40th", core.arrow(0, 7), 39);
        check.due("FROM of the 40th", core.side(39, 0), 0);
        check.due("TO of the 40th", core.side(39, 1), 7);
        check.due("the 41st", core.arrow(7, 7), FULL);
        check.due("the 40th again", core.arrow(0, 7), 39);
        check.refused("the 41st", () -> Made.fullOfTypes(0), full -> full.arrow(0, 7), FULL);
        check.refused("the 41st, of the 40th", () -> Made.fullOfTypes(0), full -> full.arrow(0, 39), FULL);
        for (int type = 1; type < 40; type++) {
            int one = type;
            check.refused("one that is there", () -> Made.fullOfTypes(0), full -> full.arrow(full.side(one, 0), full.side(one, 1)), one);
        }
    }

    private static CoreTerms ofLengths() {
        CoreTerms core = new CoreTerms();
        Made.ofArrows(core, 9);
        return core;
    }

    private static void arrowFullOfLength(Check check) {
        check.sentence(2, "FULL: LENGTH, 40 at most");
        // TYPE k of these has LENGTH 4k + 1: 37 is the greatest LENGTH that there is, 41 the next
        for (int from = 0; from <= 9; from++) {
            for (int to = 0; to <= 9; to++) {
                int left = from, right = to;
                int length = 4 * from + 1 + 4 * to + 1 + 3;
                if (length > 40) {
                    check.refused("LENGTH " + length, BoundsOfTypesTest::ofLengths, core -> core.arrow(left, right), FULL);
                } else {
                    CoreTerms core = ofLengths();
                    check.due("LENGTH " + length, core.arrow(left, right), right == 0 ? left + 1 : 10);
                }
            }
        }
    }

    private static void sideBad(Check check) {
        check.sentence(3, "BAD");
        for (int wrong : Made.notBelow(3)) {
            check.refused("side(" + wrong + ", 0)", Made::rich, core -> core.side(wrong, 0), BAD);
            check.refused("side(" + wrong + ", 1)", Made::rich, core -> core.side(wrong, 1), BAD);
        }
        CoreTerms full = Made.fullOfTypes(0);
        check.due("FROM of the 40th", full.side(39, 0), 7);
        check.due("TO of the 40th", full.side(39, 1), 2);
        check.due("FROM of a 41st", full.side(40, 0), BAD);
        check.due("TO of a 41st", full.side(40, 1), BAD);
        check.sentence(3, "BAD: also which");
        for (int wrong : Made.notBelow(2)) {
            check.refused("side(1, " + wrong + ")", Made::rich, core -> core.side(1, wrong), BAD);
            check.refused("side(0, " + wrong + ") of INT", Made::rich, core -> core.side(0, wrong), BAD);
        }
    }

    private static void sideNone(Check check) {
        check.sentence(3, "NONE: INT");
        check.refused("side(0, 0)", Made::rich, core -> core.side(0, 0), NONE);
        check.refused("side(0, 1)", Made::rich, core -> core.side(0, 1), NONE);
        CoreTerms core = Made.rich();
        check.due("an ARROW has a FROM", core.side(2, 0), 1);
        check.due("and a TO, also if that is INT", core.side(2, 1), 0);
    }

    private static void declareBounds(Check check) {
        check.sentence(4, "A NAME is DECLARED to have a TYPE: 1");
        CoreTerms core = Made.fullOfTypes(0);
        for (int x : new int[] {0, 25}) {
            int name = core.name(x);
            for (int type : new int[] {0, 39, 1}) {
                check.due("declare(" + x + ", " + type + ")", core.declare(x, type), 1);
                check.due("its type", core.type(name), type);
            }
        }
        check.due("others are not", core.type(core.name(1)), NONE);
        check.due("nor the last but one", core.type(core.name(24)), NONE);
    }

    private static void declareNone(Check check) {
        check.sentence(4, "or none (NONE): 1");
        CoreTerms core = Made.rich();
        int a = core.name(0), z = core.name(25);
        check.due("a has one", core.type(a), 1);
        check.due("declare(0, NONE)", core.declare(0, NONE), 1);
        check.due("a has none", core.type(a), NONE);
        check.due("z stays", core.type(z), 2);
        check.due("declare(0, NONE) again", core.declare(0, NONE), 1);
        check.due("declare(25, NONE)", core.declare(25, NONE), 1);
        check.due("z has none", core.type(z), NONE);
        check.due("anew", core.declare(25, 0), 1);
        check.due("z has one", core.type(z), 0);
    }

    private static void declareBad(Check check) {
        check.sentence(4, "BAD");
        for (int wrong : Made.NO_LETTERS) {
            check.refused("declare(" + wrong + ", 0)", Made::rich, core -> core.declare(wrong, 0), BAD);
            check.refused("declare(" + wrong + ", NONE)", Made::rich, core -> core.declare(wrong, NONE), BAD);
        }
        for (int wrong : Made.notBelow(3)) {
            if (wrong != NONE) {
                check.refused("declare(0, " + wrong + ")", Made::rich, core -> core.declare(0, wrong), BAD);
                check.refused("declare(25, " + wrong + ")", Made::rich, core -> core.declare(25, wrong), BAD);
            }
        }
        check.refused("declare(0, 40)", () -> Made.fullOfTypes(0), core -> core.declare(0, 40), BAD);
    }

    private static void countBounds(Check check) {
        check.sentence(27, "0 TERMS, 1 TYPES, 2 bytes on THE TAPE, 3 in THE PRINT: the least and the most");
        CoreTerms core = new CoreTerms();
        int[] least = {0, 1, 0, 0};
        for (int what = 0; what < 4; what++) {
            check.due("count(" + what + ")", core.count(what), least[what]);
        }
        core = Made.fullOfTypes(0);
        int whole = Made.ofWidth(core, 4000);
        core.print(whole);
        while (core.count(0) < 400) {
            core.number(0);
        }
        for (int i = 0; i < 75; i++) {
            core.feed(0L, 8);
        }
        int[] most = {400, 40, 600, 4000};
        for (int what = 0; what < 4; what++) {
            check.due("count(" + what + ")", core.count(what), most[what]);
        }
    }

    private static void countBad(Check check) {
        check.sentence(27, "BAD");
        for (int wrong : Made.notBelow(4)) {
            check.refused("count(" + wrong + ")", Made::rich, core -> core.count(wrong), BAD);
        }
        check.due("the last that is not", Made.rich().count(3), 6);
    }

    private static void clearOfNone(Check check) {
        check.sentence(28, "how many there were: none");
        CoreTerms core = new CoreTerms();
        check.due("clear()", core.clear(), 0);
        check.due("again", core.clear(), 0);
        check.due("the first TERM", core.number(5), 0);
        check.due("clear() of one", core.clear(), 1);
        check.due("and of none", core.clear(), 0);
    }

    private static void clearOfAll(Check check) {
        check.sentence(28, "All TERMS go: the most");
        CoreTerms core = Made.fullOfTerms(0);
        check.due("clear()", core.clear(), 400);
        check.due("TERMS", core.count(0), 0);
        check.due("the first is gone", core.told(0, 0), BAD);
        check.due("the last is gone", core.told(399, 0), BAD);
        check.due("there is room", core.name(3), 0);
        check.due("of another KIND", core.told(0, 0), 1);
        check.due("its n", core.told(0, 3), 0);
        for (int i = 1; i < 400; i++) {
            core.number(i);
        }
        check.due("till it is FULL", core.number(0), FULL);
        check.due("all again", core.clear(), 400);
    }

    private static void clearKeeps(Check check) {
        check.sentence(28, "TYPES, what is DECLARED, THE TAPE and THE PRINT stay");
        CoreTerms core = Made.rich();
        int terms = core.count(0), fault = core.fault(0), at = core.fault(1), ran = core.ran();
        check.due("clear()", core.clear(), terms);
        check.due("TYPES", core.count(1), 3);
        check.due("FROM of the last", core.side(2, 0), 1);
        check.due("THE PRINT", Check.printed(core), "[d=5]d");
        check.due("the latest FAULT", core.fault(0), fault);
        check.due("where it was", core.fault(1), at);
        check.due("the latest run()", core.ran(), ran);
        check.due("THE TAPE", core.count(2), 17);
        check.due("is read", Check.text(core, core.read()), "(a+[b=17]{b?c:z})");
        check.due("a is DECLARED", core.type(core.name(0)), 1);
        check.due("z is DECLARED", core.type(core.name(25)), 2);
        check.due("b is not", core.type(core.name(1)), NONE);
    }
}
