import java.util.function.ToLongFunction;

/** The boundary cases of promises 17 to 21, sentence by sentence: put, step, run, ran, drop. */
public final class BoundsOfChangingTest {
    private static final int BAD = CoreTerms.BAD, NONE = CoreTerms.NONE, FULL = CoreTerms.FULL;
    private static final int MIN = Integer.MIN_VALUE, MAX = Integer.MAX_VALUE;
    private static final int RICH = Made.rich().count(0);
    private static final String TWICE = "\\a:i.(a a)", LOOP = "(" + TWICE + " " + TWICE + ")";

    public static void main(String[] args) {
        Check check = new Check("bounds of changing");
        putBad(check);
        putNothing(check);
        putFullOfTerms(check);
        putFullOfSize(check);
        putFullOfDepth(check);
        putFirstLetter(check);
        putFullOfLetters(check);
        putFullOfLettersInEachPart(check);
        putNeedsNoLetter(check);
        putItself(check);
        stepBad(check);
        stepNone(check);
        stepFullOfTerms(check);
        stepFullOfSize(check);
        stepFullOfDepth(check);
        stepFullOfLetters(check);
        stepMakesTheSameKind(check);
        stepWraps(check);
        stepChoice(check);
        stepDeepest(check);
        runBounds(check);
        runBad(check);
        runFull(check);
        runFullOfSize(check);
        ranBefore(check);
        ranStays(check);
        dropBad(check);
        dropFull(check);
        dropWhatBecame(check);
        dropDeepest(check);
        termZero(check);
        check.end();
    }

    /** A call that makes so many TERMS of the text: with just that room, and with each lesser one. */
    private static void room(Check check, String text, int needed, ToLongFunction<CoreTerms> call) {
        for (int room = 0; room <= needed; room++) {
            int left = room;
            if (room < needed) {
                check.refused(text + ", room for " + room + " of " + needed, () -> Made.fullOfTerms(left, "b", text), call, FULL);
            } else {
                CoreTerms core = Made.fullOfTerms(room, "b", text);
                long t = call.applyAsLong(core);
                check.due(text + ", just room", t >= 0 ? 1 : 0, 1);
                check.due("all of it is used", core.count(0), 400);
            }
        }
    }

    /** The TERM of the text behind "b", which is TERM 0; NUMBERS 0 fill the object, so no text here has one. */
    private static int whole(CoreTerms core) {
        int t = 1;
        for (int i = 2; i < core.count(0) && !(core.told(i, 0) == 0 && core.told(i, 3) == 0); i++) {
            t = i;
        }
        return t;
    }

    private static void putBad(Check check) {
        check.sentence(17, "BAD");
        for (int wrong : Made.notBelow(RICH)) {
            check.refused("t " + wrong, Made::rich, core -> core.put(wrong, 0, 0), BAD);
            check.refused("u " + wrong, Made::rich, core -> core.put(0, 0, wrong), BAD);
            check.refused("u " + wrong + " into a CALL", Made::rich, core -> core.put(4, 0, wrong), BAD);
        }
        for (int wrong : Made.NO_LETTERS) {
            check.refused("x " + wrong, Made::rich, core -> core.put(0, wrong, 0), BAD);
        }
        check.sentence(17, "BAD, with no room");
        CoreTerms full = Made.fullOfTerms(0, "(a+b)");
        check.due("t", full.put(400, 0, 0), BAD);
        check.due("x", full.put(2, 26, 0), BAD);
        check.due("u", full.put(2, 0, 400), BAD);
    }

    private static void putNothing(Check check) {
        check.sentence(17, "if x is not FREE in t: t itself");
        for (String text : new String[] {"7", "c", "\\a:i.a", "[a=1]a", "(1 2)", "(c+d)", "{1?2:3}", "\\a:i.\\b:i.(a b)"}) {
            check.refused("into " + text, () -> Made.fullOfTerms(0, "b", text), core -> core.put(whole(core), 0, 0),
                whole(Made.fullOfTerms(0, "b", text)));
        }
        check.sentence(17, "NAME x: u");
        check.refused("into a, with no room", () -> Made.fullOfTerms(0, "b", "a"), core -> core.put(1, 0, 0), 0);
        check.refused("the last TERM, with no room", () -> Made.fullOfTerms(0, "b", "a"), core -> core.put(1, 0, 399), 399);
        check.refused("into itself", () -> Made.fullOfTerms(0, "b", "a"), core -> core.put(1, 0, 1), 1);
    }

    private static void putFullOfTerms(Check check) {
        check.sentence(17, "FULL: TERMS");
        Object[][] rows = {{"(a 1)", 1}, {"(1 a)", 1}, {"(a+a)", 1}, {"{a?a:a}", 1}, {"{1?2:a}", 1}, {"\\c:i.a", 1}, {"[c=a]1", 1},
            {"[c=1]a", 1}, {"[a=a]a", 1}, {"((a 1)+2)", 2}, {"((a 1)+(a 2))", 3}, {"{(a 1)?(a 2):(a 3)}", 4}, {"[c=(a 1)](a 2)", 3},
            {"\\b:i.a", 2}, {"\\b:i.(a b)", 4}, {"[b=1](a b)", 4}, {"[b=(a 1)](a b)", 5}, {"[b=a]b", 1}, {"\\b:i.\\c:i.((a b) c)", 10}};
        for (Object[] row : rows) {
            room(check, (String) row[0], (Integer) row[1], core -> core.put(whole(core), 0, 0));
        }
    }

    /** The text, then a TERM of the SIZE, which is the last. */
    private static CoreTerms twoOfSize(String text, int size) {
        CoreTerms core = new CoreTerms();
        Check.read(core, text);
        Made.ofSize(core, size);
        return core;
    }

    private static void putOfSize(Check check, String text, int size, int due) {
        int t = Check.read(new CoreTerms(), text);
        CoreTerms core = twoOfSize(text, size);
        check.due("SIZE " + due + " of " + text, core.told(core.put(t, 0, core.count(0) - 1), 1), due);
        check.refused("more than SIZE 1000 of " + text, () -> twoOfSize(text, size + 1), full -> full.put(t, 0, full.count(0) - 1), FULL);
    }

    private static void putFullOfSize(Check check) {
        check.sentence(17, "FULL: SIZE, 1000 at most");
        putOfSize(check, "\\b:i.a", 999, 1000);
        putOfSize(check, "\\b:i.(a+a)", 499, 1000);
        putOfSize(check, "(a a)", 499, 999);
        putOfSize(check, "(a+a)", 499, 999);
        putOfSize(check, "{a?a:a}", 333, 1000);
        putOfSize(check, "[b=a]a", 499, 999);
        putOfSize(check, "[b=a]1", 998, 1000);
        putOfSize(check, "[b=1]a", 998, 1000);
    }

    /** TERM 10 has DEPTH 11, with a at its bottom; the last TERM has the other DEPTH. */
    private static CoreTerms twoOfDepth(int depth) {
        CoreTerms core = new CoreTerms();
        Made.ofDepth(core, 11);
        int t = core.number(1);
        for (int i = 1; i < depth; i++) {
            t = core.function(2, 0, t);
        }
        return core;
    }

    private static void putFullOfDepth(Check check) {
        check.sentence(17, "FULL: DEPTH, 40 at most");
        CoreTerms core = twoOfDepth(30);
        check.due("DEPTH 40", core.told(core.put(10, 0, core.count(0) - 1), 2), 40);
        check.refused("DEPTH 41", () -> twoOfDepth(31), full -> full.put(10, 0, full.count(0) - 1), FULL);
        check.refused("DEPTH 50", () -> twoOfDepth(40), full -> full.put(10, 0, full.count(0) - 1), FULL);
    }

    private static void putFirstLetter(Check check) {
        check.sentence(17, "z is the first letter that is FREE neither in b nor in u");
        for (int last = 1; last < 25; last++) {
            CoreTerms core = new CoreTerms();
            int b = core.name(1), letters = Made.ofLetters(core, 0, last);
            check.due("in b a .. " + last, core.told(core.put(core.function(1, 0, letters), 0, b), 4), last + 1);
            check.due("of a LET", core.told(core.put(core.let(1, b, letters), 0, b), 4), last + 1);
            int many = Made.ofLetters(core, 1, last);
            int f = core.function(1, 0, core.join(5, core.name(0), b, 0));
            check.due("in u b .. " + last, core.told(core.put(f, 0, many), 4), last + 1);
        }
        Object[][] rows = {{"\\c:i.(b c)", 1, "c", "\\a:i.(c a)"}, {"\\b:i.(a \\c:i.c)", 0, "b", "\\c:i.(b \\c:i.c)"},
            {"\\b:i.(a \\c:i.b)", 0, "b", "\\c:i.(b \\a:i.c)"}, {"\\z:i.(y z)", 24, "z", "\\a:i.(z a)"}, {"\\b:i.a", 0, "(b c)", "\\d:i.(b c)"},
            {"[b=b](a b)", 0, "b", "[c=b](b c)"}, {"[c=a](b c)", 1, "c", "[a=a](c a)"}};
        for (Object[] row : rows) {
            CoreTerms core = new CoreTerms();
            int t = Check.read(core, (String) row[0]), u = Check.read(core, (String) row[2]);
            check.due(row[2] + " into " + row[0], Check.text(core, core.put(t, (Integer) row[1], u)), (String) row[3]);
        }
    }

    /** TERM 0 is b; the last but one is u, a SUM of b .. last; the last is t, which binds b in a SUM of a .. to. */
    private static CoreTerms ofLetters(boolean let, int to, int last) {
        CoreTerms core = new CoreTerms();
        core.name(1);
        int body = Made.ofLetters(core, 0, to);
        Made.ofLetters(core, 1, last);
        if (let) {
            core.let(1, 0, body);
        } else {
            core.function(1, 0, body);
        }
        return core;
    }

    private static void putFullOfLetters(Check check) {
        check.sentence(17, "FULL: a letter more than there are");
        for (boolean let : new boolean[] {false, true}) {
            String kind = let ? " of a LET" : " of a FUNCTION";
            check.refused("all are FREE in b" + kind, () -> ofLetters(let, 25, 1), core -> core.put(core.count(0) - 1, 0, 0), FULL);
            check.refused("all are FREE in b and u" + kind, () -> ofLetters(let, 1, 25),
                core -> core.put(core.count(0) - 1, 0, core.count(0) - 2), FULL);
            CoreTerms core = ofLetters(let, 1, 24);
            check.due("z is not" + kind, core.told(core.put(core.count(0) - 1, 0, core.count(0) - 2), 4), 25);
        }
        CoreTerms core = new CoreTerms();
        Check.read(core, "(a+(a 1))");
        int b = core.name(1), f = core.function(1, 0, Made.ofLetters(core, 0, 25)), sum = core.join(5, 4, f, 0);
        check.refused("behind a PART that came", core, () -> core.put(sum, 0, b), FULL);
        // z is left for the outer one, but not for the inner one that binds it
        for (int kind : new int[] {2, 4}) {
            CoreTerms two = new CoreTerms();
            int one = two.name(1), inner = binds(two, kind, 25, Made.ofLetters(two, 0, 25)), outer = binds(two, kind, 1, inner);
            check.refused("of an inner one", two, () -> two.put(outer, 0, one), FULL);
        }
    }

    private static int binds(CoreTerms core, int kind, int x, int b) {
        return kind == 2 ? core.function(x, 0, b) : core.let(x, core.number(1), b);
    }

    /** The PART that needs a letter stands at each place of each KIND; there is room for all else. */
    private static void putFullOfLettersInEachPart(Check check) {
        check.sentence(17, "FULL: a letter more than there are, in each PART");
        for (int kind = 2; kind <= 6; kind++) {
            for (int place = 0; place < new int[] {0, 0, 1, 2, 2, 2, 3}[kind]; place++) {
                CoreTerms core = new CoreTerms();
                int b = core.name(1), f = core.function(1, 0, Made.ofLetters(core, 0, 25)), a = core.name(0);
                int t = around(core, kind, place, f, a);
                check.refused("KIND " + kind + ", PART " + place, core, () -> core.put(t, 0, b), FULL);
                int more = core.join(5, t, a, 0);
                check.refused("within a SUM", core, () -> core.put(more, 0, b), FULL);
            }
        }
    }

    /** The TERM at its place in one of the KIND; a at the others. */
    private static int around(CoreTerms core, int kind, int place, int t, int a) {
        int first = place == 0 ? t : a, second = place == 1 ? t : a;
        switch (kind) {
            case 2: return core.function(2, 0, first);
            case 4: return core.let(2, first, second);
            default: return core.join(kind, first, second, place == 2 ? t : a);
        }
    }

    private static void putNeedsNoLetter(Check check) {
        check.sentence(17, "if y is not FREE in u");
        CoreTerms core = new CoreTerms();
        int b = core.name(1), all = Made.ofLetters(core, 0, 25), one = core.number(1);
        check.due("all are FREE in b, none in u", core.told(core.put(core.function(1, 0, all), 0, one), 4), 1);
        check.due("y is not in u", core.told(core.put(core.function(2, 0, all), 0, b), 4), 2);
        check.sentence(17, "LET: then, if y is not x, and x is FREE in b");
        int sameName = core.put(core.let(0, core.name(0), all), 0, all);
        check.due("y is x", core.told(sameName, 4) * 1000 + core.told(sameName, 7), all);
        check.due("its e", core.told(sameName, 6), all);
        int others = Made.ofLetters(core, 1, 25), notFree = core.put(core.let(1, core.name(0), others), 0, all);
        check.due("x is not FREE in b", core.told(notFree, 4) * 1000 + core.told(notFree, 7), 1000 + others);
        check.due("its e", core.told(notFree, 6), all);
    }

    private static void putItself(Check check) {
        check.sentence(17, "one of which no PART is another one is itself");
        for (String text : new String[] {"(a 1)", "(1+a)", "{1?a:2}", "\\b:i.a", "[b=a]1", "[b=1]a", "(1+\\b:i.[c=2]{3?4:(a 5)})"}) {
            CoreTerms core = new CoreTerms();
            int t = Check.read(core, text), a = 0;
            while (core.told(a, 0) != 1) {
                a++;
            }
            int name = a;
            check.refused("the NAME that stands in " + text, core, () -> core.put(t, 0, name), t);
            int other = core.name(0), before = core.count(0);
            check.due("another one of it", core.put(t, 0, other) == t ? 1 : 0, 0);
            check.due("new TERMS came", core.count(0) > before ? 1 : 0, 1);
        }
        CoreTerms core = new CoreTerms();
        int one = core.name(0), other = core.name(0), sum = core.join(5, one, other, 0);
        check.due("one PART of two is another one", core.put(sum, 0, one), sum + 1);
    }

    private static void stepBad(Check check) {
        check.sentence(18, "BAD");
        for (int wrong : Made.notBelow(RICH)) {
            check.refused("step(" + wrong + ")", Made::rich, core -> core.step(wrong), BAD);
        }
        check.due("one more", Made.fullOfTerms(0).step(400), BAD);
    }

    private static void stepNone(Check check) {
        check.sentence(18, "NONE: There is none of others, and where there is none of what is told");
        String[] texts = {"7", "c", "\\a:i.(1+2)", "(c (1+2))", "(7 8)", "((c 1) (1+2))", "(c+(1+2))", "(1+c)", "(1+\\a:i.a)", "{c?(1+2):(1+2)}",
            "{\\a:i.a?1:2}", "((c+1)+2)", "(1+(c+2))", "{(1+c)?2:3}", "({c?1:2} 3)", "(\\a:i.a+1)"};
        for (String text : texts) {
            check.refused(text, () -> Made.fullOfTerms(300, "b", text), core -> core.step(whole(core)), NONE);
            check.refused(text + ", with no room", () -> Made.fullOfTerms(0, "b", text), core -> core.step(whole(core)), NONE);
        }
        check.refused("in a rich object, (a b)", Made::rich, core -> core.step(4), NONE);
    }

    private static void stepFullOfTerms(Check check) {
        check.sentence(18, "FULL: TERMS");
        Object[][] rows = {{"(\\a:i.(a+1) 2)", 1}, {"(\\a:i.\\b:i.(a b) b)", 4}, {"[a=1](a+a)", 1}, {"[a=b]\\b:i.(a b)", 4}, {"(1+2)", 1},
            {"((1+2)+3)", 2}, {"(1+(2+3))", 2}, {"{(1+2)?3:4}", 2}, {"((\\a:i.a b) c)", 1}, {"({1?2:3}+4)", 1}, {"(4+{1?2:3})", 1},
            {"(((1+2)+3)+4)", 3}, {"(((1+2) 3) 4)", 3}, {"{{(1+2)?3:4}?5:6}", 3}, {"{1?a:b}", 0}, {"{-1?a:b}", 0}, {"(\\a:i.a 1)", 0},
            {"(\\a:i.c 1)", 0}, {"[a=1]c", 0}, {"[a=1]a", 0}};
        for (Object[] row : rows) {
            room(check, (String) row[0], (Integer) row[1], core -> core.step(whole(core)));
        }
    }

    /** [a=e]b, or a CALL of it, the last TERM; e has the SIZE. */
    private static CoreTerms toStep(boolean let, String b, int size) {
        CoreTerms core = new CoreTerms();
        int body = Check.read(core, b), e = Made.ofSize(core, size);
        if (let) {
            core.let(0, e, body);
        } else {
            core.join(3, core.function(0, 0, body), e, 0);
        }
        return core;
    }

    private static int lastStep(CoreTerms core) {
        return core.step(core.count(0) - 1);
    }

    private static void stepFullOfSize(Check check) {
        check.sentence(18, "FULL: SIZE, 1000 at most");
        for (boolean let : new boolean[] {true, false}) {
            CoreTerms core = toStep(let, "\\b:i.(a+a)", 499);
            check.due("SIZE 1000", core.told(lastStep(core), 1), 1000);
            check.refused("SIZE 1001", () -> toStep(let, "(a+a)", 500), BoundsOfChangingTest::lastStep, FULL);
        }
        // what the PART becomes has SIZE 499 alone: the SUM around it has 500 more, or 501
        for (int rest : new int[] {500, 501}) {
            CoreTerms core = toStep(true, "(a+a)", 249);
            int sum = core.join(5, core.count(0) - 1, Made.ofSize(core, rest), 0);
            if (rest == 500) {
                check.due("SIZE 1000 around a PART's STEP", core.told(core.step(sum), 1), 1000);
            } else {
                check.refused("SIZE 1001 around a PART's STEP", core, () -> core.step(sum), FULL);
            }
        }
    }

    private static void stepFullOfDepth(Check check) {
        check.sentence(18, "FULL: DEPTH, 40 at most");
        for (int depth : new int[] {30, 31}) {
            CoreTerms core = twoOfDepth(depth);
            int last = core.count(0) - 1, let = core.let(0, last, 10), call = core.join(3, core.function(0, 0, 10), last, 0);
            if (depth == 30) {
                check.due("DEPTH 40 of a LET", core.told(core.step(let), 2), 40);
                check.due("DEPTH 40 of a CALL", core.told(core.step(call), 2), 40);
            } else {
                check.refused("DEPTH 41 of a LET", core, () -> core.step(let), FULL);
                check.refused("DEPTH 41 of a CALL", core, () -> core.step(call), FULL);
            }
        }
        for (int around : new int[] {1, 2}) {
            CoreTerms core = twoOfDepth(29);
            int t = core.let(0, core.count(0) - 1, 10), one = core.number(1);
            for (int i = 0; i < around; i++) {
                t = core.join(5, t, one, 0);
            }
            int sum = t;
            if (around == 1) {
                check.due("DEPTH 40 around a PART's STEP", core.told(core.step(sum), 2), 40);
            } else {
                check.refused("DEPTH 41 around a PART's STEP", core, () -> core.step(sum), FULL);
            }
        }
    }

    private static void stepFullOfLetters(Check check) {
        check.sentence(18, "FULL: a letter more than there are");
        CoreTerms core = new CoreTerms();
        int b = core.name(1), f = core.function(1, 0, Made.ofLetters(core, 0, 25));
        int let = core.let(0, b, f), call = core.join(3, core.function(0, 0, f), b, 0), sum = core.join(5, let, b, 0);
        check.refused("a LET", core, () -> core.step(let), FULL);
        check.refused("a CALL", core, () -> core.step(call), FULL);
        int behind = core.join(5, core.number(1), let, 0), called = core.join(3, let, b, 0), asked = core.join(6, let, b, b);
        check.refused("within a SUM", core, () -> core.step(sum), FULL);
        check.refused("within a SUM, behind a NUMBER", core, () -> core.step(behind), FULL);
        check.refused("within a CALL", core, () -> core.step(called), FULL);
        check.refused("within a CHOICE", core, () -> core.step(asked), FULL);
        check.due("none is needed", core.told(core.step(core.let(0, core.number(1), f)), 4), 1);
    }

    private static void stepMakesTheSameKind(Check check) {
        check.sentence(18, "What comes of a PART's STEP stands in its place in a new TERM of the same KIND");
        Object[][] rows = {{"((1+2)+a)", 0}, {"(1+(2+3))", 1}, {"((1+2) a)", 0}, {"{(1+2)?a:b}", 0}};
        for (Object[] row : rows) {
            CoreTerms core = new CoreTerms();
            int t = Check.read(core, (String) row[0]), place = (Integer) row[1], before = core.count(0), got = core.step(t);
            check.due("the TERM of " + row[0], got, before + 1);
            for (int what : new int[] {0, 3, 4, 5, 6, 7, 8}) {
                check.due("told " + what, core.told(got, what), what == 6 + place ? before : core.told(t, what));
            }
        }
    }

    private static void stepWraps(Check check) {
        check.sentence(18, "the NUMBER of them together (it wraps)");
        int[][] rows = {{MAX, 1, MIN}, {1, MAX, MIN}, {MIN, -1, MAX}, {-1, MIN, MAX}, {MAX, MAX, -2}, {MIN, MIN, 0}, {MAX, MIN, -1},
            {MAX, 0, MAX}, {MIN, 0, MIN}, {MAX - 1, 1, MAX}, {MIN + 1, -1, MIN}, {0, 0, 0}, {-1, 1, 0}, {-1, -2, -3}};
        for (int[] row : rows) {
            CoreTerms core = new CoreTerms();
            int a = core.number(row[0]), b = core.number(row[1]);
            check.due(row[0] + " and " + row[1], core.told(core.step(core.join(5, a, b, 0)), 3), row[2]);
        }
    }

    private static void stepChoice(Check check) {
        check.sentence(18, "CHOICE: b, if a is not 0, else c; itself");
        CoreTerms core = new CoreTerms();
        int b = core.name(0), c = core.name(1);
        for (int n : new int[] {0, 1, -1, 2, 256, MIN, MAX}) {
            int choice = core.join(6, core.number(n), b, c);
            check.refused("of " + n, core, () -> core.step(choice), n == 0 ? c : b);
        }
    }

    private static void stepDeepest(Check check) {
        check.sentence(18, "the outermost first, at DEPTH 40");
        String[][] around = {{"(", "+9)"}, {"(9+", ")"}, {"(", " 9)"}, {"{", "?8:9}"}};
        for (String[] part : around) {
            CoreTerms core = new CoreTerms();
            int t = Check.read(core, part[0].repeat(38) + "(1+2)" + part[1].repeat(38));
            check.due("DEPTH of " + part[0] + part[1], core.told(t, 2), 40);
            int first = core.count(0);
            check.due("its STEP", core.step(t), first + 38);
            check.due("its text", Check.text(core, first + 38), part[0].repeat(38) + "3" + part[1].repeat(38));
        }
        CoreTerms core = new CoreTerms();
        check.due("a LET goes ahead of what is in it", Check.text(core, core.step(Check.read(core, "[a=(1+2)](a+(3+4))"))), "((1+2)+(3+4))");
        check.due("a CALL too", Check.text(core, core.step(Check.read(core, "(\\a:i.(a+(3+4)) (1+2))"))), "((1+2)+(3+4))");
    }

    private static void runBounds(Check check) {
        check.sentence(19, "Up to n STEPS (0 .. 50), as long as there is one");
        CoreTerms core = new CoreTerms();
        int sum = Check.read(core, "((1+2)+(3+4))");
        String[] due = {"((1+2)+(3+4))", "(3+(3+4))", "(3+7)", "10", "10", "10"};
        for (int n = 0; n < due.length; n++) {
            check.due("n " + n, Check.text(core, core.run(sum, n)), due[n]);
            check.due("ran", core.ran(), Math.min(n, 3));
        }
        int none = core.name(0);
        check.due("no STEP: t itself", core.run(none, 50), none);
        check.due("ran", core.ran(), 0);
        CoreTerms loop = new CoreTerms();
        int t = Check.read(loop, LOOP);
        check.due("n 50", loop.run(t, 50), t + 50);
        check.due("ran", loop.ran(), 50);
        check.due("n 49", loop.run(t, 49), t + 99);
        check.due("ran", loop.ran(), 49);
        // the STEPS of one PART, of the other one, and the SUM itself: just as many as there can be in a run()
        for (int steps = 49; steps <= 51; steps++) {
            CoreTerms just = new CoreTerms();
            int both = just.join(5, choices(just, 24), choices(just, steps - 25), 0), last = just.run(both, 50);
            check.due("n 50 of " + steps, Check.text(just, last), steps <= 50 ? "2" : "(1+1)");
            check.due("ran", just.ran(), Math.min(steps, 50));
            check.due("is there one more", just.step(last) == NONE ? 0 : 1, steps <= 50 ? 0 : 1);
        }
    }

    /** So many CHOICES within one another, each of which has a STEP to the next; the last to 1. */
    private static int choices(CoreTerms core, int total) {
        int one = core.number(1), t = one;
        for (int i = 0; i < total; i++) {
            t = core.join(6, one, t, core.number(0));
        }
        return t;
    }

    private static void runBad(Check check) {
        check.sentence(19, "BAD");
        for (int wrong : Made.notBelow(RICH)) {
            check.refused("run(" + wrong + ", 1)", Made::rich, core -> core.run(wrong, 1), BAD);
            check.refused("run(" + wrong + ", 0)", Made::rich, core -> core.run(wrong, 0), BAD);
        }
        for (int wrong : Made.notBelow(51)) {
            check.refused("run(0, " + wrong + ")", Made::rich, core -> core.run(0, wrong), BAD);
            check.refused("run of a SUM, " + wrong, Made::rich, core -> core.run(13, wrong), BAD);
        }
        check.due("with no room", Made.fullOfTerms(0, "(1+2)").run(2, 51), BAD);
    }

    private static void runFull(Check check) {
        check.sentence(19, "FULL: of all of them");
        for (int room = 0; room <= 50; room += 5) {
            int left = room;
            CoreTerms core = Made.fullOfTerms(room, "b", LOOP);
            check.due("just room for " + room, core.run(whole(core), room), room == 0 ? whole(core) : 399);
            check.due("ran", core.ran(), room);
            if (room < 50) {
                check.refused("one more than " + room, () -> Made.fullOfTerms(left, "b", LOOP), full -> full.run(whole(full), left + 1), FULL);
                check.refused("n 50, room for " + room, () -> Made.fullOfTerms(left, "b", LOOP), full -> full.run(whole(full), 50), FULL);
            }
        }
        String ends = "((1+2)+(3+4))";
        check.due("all STEPS that there are", Made.fullOfTerms(5, "b", ends).run(7, 50), 399);
        for (int room = 0; room < 5; room++) {
            int left = room;
            check.refused(ends + ", room for " + room, () -> Made.fullOfTerms(left, "b", ends), full -> full.run(7, 50), FULL);
        }
        check.due("two STEPS have room", Made.fullOfTerms(4, "b", ends).run(7, 2), 399);
        check.refused("no STEP needs no room", () -> Made.fullOfTerms(0, "b", "c"), full -> full.run(1, 50), 1);
    }

    /** The first STEP has SIZE 2 * size + 5, the second 4 * size + 3. */
    private static CoreTerms growing(int size) {
        CoreTerms core = new CoreTerms();
        int body = Check.read(core, "[b=(a+a)](b+b)");
        core.let(0, Made.ofSize(core, size), body);
        return core;
    }

    private static int runLast(CoreTerms core, int n) {
        return core.run(core.count(0) - 1, n);
    }

    private static void runFullOfSize(Check check) {
        check.sentence(19, "FULL: SIZE, of a later STEP");
        CoreTerms core = growing(249);
        check.due("SIZE 999", core.told(runLast(core, 2), 1), 999);
        check.due("ran", core.ran(), 2);
        core = growing(250);
        check.due("the first STEP", core.told(runLast(core, 1), 1), 505);
        check.refused("SIZE 1003", () -> growing(250), full -> runLast(full, 2), FULL);
        check.refused("SIZE 1003, n 50", () -> growing(250), full -> runLast(full, 50), FULL);
    }

    private static void ranBefore(Check check) {
        check.sentence(20, "none before");
        CoreTerms core = new CoreTerms();
        check.due("ran()", core.ran(), 0);
        Check.read(core, "(1+2)");
        core.step(2);
        check.due("a STEP is no run()", core.ran(), 0);
        core.run(2, 51);
        core.run(9, 1);
        check.due("behind BAD alone", core.ran(), 0);
        CoreTerms full = Made.fullOfTerms(0, "(1+2)");
        full.run(2, 1);
        check.due("behind FULL alone", full.ran(), 0);
    }

    private static void ranStays(Check check) {
        check.sentence(20, "the latest run() that was not BAD, FULL");
        CoreTerms core = new CoreTerms();
        int t = Check.read(core, LOOP);
        core.run(t, 7);
        check.due("seven", core.ran(), 7);
        for (int wrong : Made.notBelow(51)) {
            check.due("n " + wrong, core.run(t, wrong), BAD);
            check.due("stays", core.ran(), 7);
        }
        for (int wrong : Made.notBelow(core.count(0))) {
            check.due("t " + wrong, core.run(wrong, 1), BAD);
            check.due("stays", core.ran(), 7);
        }
        while (core.count(0) < 397) {
            core.number(0);
        }
        check.due("FULL", core.run(t, 4), FULL);
        check.due("stays", core.ran(), 7);
        core.step(t);
        check.due("behind a STEP", core.ran(), 7);
        check.due("two have room", core.run(t, 2), 399);
        check.due("two", core.ran(), 2);
        check.due("FULL", core.run(t, 1), FULL);
        check.due("stays", core.ran(), 2);
        check.due("n 0", core.run(t, 0), t);
        check.due("none", core.ran(), 0);
        core.clear();
        int sum = Check.read(core, "(1+2)");
        core.run(sum, 50);
        core.clear();
        check.due("behind clear()", core.ran(), 1);
        core.run(core.number(1), 50);
        check.due("no STEP is none", core.ran(), 0);
    }

    private static void dropBad(Check check) {
        check.sentence(21, "BAD");
        for (int wrong : Made.notBelow(RICH)) {
            check.refused("drop(" + wrong + ")", Made::rich, core -> core.drop(wrong), BAD);
        }
        check.due("one more", Made.fullOfTerms(0).drop(400), BAD);
    }

    private static void dropFull(Check check) {
        check.sentence(21, "FULL: TERMS");
        Object[][] rows = {{"[a=1]c", 0}, {"[a=1][d=a]c", 0}, {"[a=1]a", 0}, {"7", 0}, {"(a+b)", 0}, {"([a=1]2+3)", 1}, {"(3 [a=1]2)", 1},
            {"(([a=1]2+3)+4)", 2}, {"\\c:i.[a=1]c", 1}, {"\\c:i.\\d:i.[a=1]c", 2}, {"{[a=1]1?[a=1]2:[a=1]3}", 1}, {"{1?2:[a=1]3}", 1}, {"{([a=1]2+3)?4:5}", 2},
            {"{1?([a=1]2+3):4}", 2}, {"{1?4:([a=1]2+3)}", 2},
            {"[a=[d=1]a]a", 1}, {"[b=([a=1]2+3)]b", 2}, {"[b=([a=1]2+3)]4", 1}, {"[c=1]([a=1]2+c)", 2}, {"[c=1]([a=1]2+3)", 1}};
        for (Object[] row : rows) {
            room(check, (String) row[0], (Integer) row[1], core -> core.drop(whole(core)));
        }
    }

    private static void dropWhatBecame(Check check) {
        check.sentence(21, "of a LET whose x is not FREE in what b became, that");
        String[][] rows = {{"[a=1][b=a]2", "2"}, {"[a=1][b=a](b+2)", "[a=1][b=a](b+2)"}, {"[a=1]([b=a]2+3)", "(2+3)"},
            {"[a=1]([b=a]2+a)", "[a=1](2+a)"}, {"[a=1]\\a:i.a", "\\a:i.a"}, {"[a=a]a", "[a=a]a"}, {"[a=a]b", "b"}, {"[a=1][a=a]2", "2"},
            {"[z=1]z", "[z=1]z"}, {"[z=1]y", "y"}};
        for (String[] row : rows) {
            CoreTerms core = new CoreTerms();
            check.due(row[0], Check.text(core, core.drop(Check.read(core, row[0]))), row[1]);
        }
        check.sentence(21, "else a new TERM, if a PART became another one");
        for (String text : new String[] {"7", "a", "\\a:i.a", "(a b)", "(a+b)", "{a?b:c}", "[a=1]a", "[a=1][b=a](a+b)"}) {
            CoreTerms core = new CoreTerms();
            int t = Check.read(core, text);
            check.refused("itself: " + text, core, () -> core.drop(t), t);
        }
    }

    private static void dropDeepest(Check check) {
        check.sentence(21, "at DEPTH 40");
        CoreTerms core = new CoreTerms();
        int none = Check.read(core, "[a=1]".repeat(39) + "2");
        check.due("none of 39 is used", core.told(core.drop(none), 3), 2);
        int first = Check.read(core, "[a=1]" + "[b=1]".repeat(38) + "a");
        check.due("the outermost is", Check.text(core, core.drop(first)), "[a=1]a");
        int all = Check.read(core, "[a=a]".repeat(39) + "a");
        check.refused("all are", core, () -> core.drop(all), all);
    }

    /** The least TERM is an answer as any other one, and so it is as a PART. */
    private static void termZero(Check check) {
        for (String text : new String[] {"a", "7"}) {
            CoreTerms core = new CoreTerms();
            int zero = Check.read(core, text), b = core.name(1), one = core.number(1), f = core.function(1, 0, zero);
            check.sentence(17, "u is put for x into t: TERM 0");
            check.due("for a NAME", core.put(b, 1, zero), 0);
            check.due("into TERM 0", core.put(zero, 1, b), 0);
            int sum = core.put(core.join(5, b, one, 0), 1, zero), last = core.put(core.join(6, one, one, b), 1, zero);
            check.due("in a SUM", core.told(sum, 6) * 1000 + core.told(sum, 7), one);
            check.due("in a CHOICE", core.told(last, 8), 0);
            check.sentence(18, "A STEP: TERM 0");
            int choice = core.join(6, one, zero, one), call = core.join(3, f, one, 0), let = core.let(1, one, zero);
            int took = core.count(0);
            check.due("of a CHOICE", core.step(choice), 0);
            check.due("of a CALL", core.step(call), 0);
            check.due("of a LET", core.step(let), 0);
            check.due("no TERMS came", core.count(0), took);
            for (int t : new int[] {choice, call, let}) {
                check.due("in a SUM", core.told(core.step(core.join(5, t, one, 0)), 6), 0);
                check.due("in a SUM, behind a NUMBER", core.told(core.step(core.join(5, one, t, 0)), 7), 0);
                check.due("in a CALL", core.told(core.step(core.join(3, t, one, 0)), 6), 0);
                check.due("in a CHOICE", core.told(core.step(core.join(6, t, one, one)), 6), 0);
            }
            check.sentence(19, "the TERM behind them: TERM 0");
            check.due("of a CHOICE", core.run(choice, 50), 0);
            check.due("ran", core.ran(), 1);
            check.due("of itself", core.run(zero, 50), 0);
            check.sentence(21, "Lets are DROPPED: TERM 0");
            check.due("of a LET", core.drop(let), 0);
            int before = core.count(0), e = core.join(5, let, one, 0);
            check.due("of a LET whose e becomes another one", core.drop(core.let(1, e, zero)), 0);
            check.due("which stays", core.told(before + 2, 6) * 1000 + core.told(before + 2, 7), one);
            for (int kind = 2; kind <= 6; kind++) {
                for (int place = 0; place < new int[] {0, 0, 1, 2, 2, 2, 3}[kind]; place++) {
                    int t = core.drop(around(core, kind, place, let, core.name(2)));
                    boolean goes = kind == 4 && place == 1;
                    check.due("KIND " + kind + ", PART " + place, goes ? t : core.told(t, 6 + place), 0);
                }
                int of = around(core, kind, 0, zero, zero);
                int kept = kind == 4 ? zero : of;
                check.due("KIND " + kind + " of TERM 0 alone", core.drop(of), kept);
            }
        }
    }
}
