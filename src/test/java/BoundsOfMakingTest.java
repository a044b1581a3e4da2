/** The boundary cases of promises 5 to 9, sentence by sentence: number, name, function, let, join. */
public final class BoundsOfMakingTest {
    private static final int BAD = CoreTerms.BAD, NONE = CoreTerms.NONE, FULL = CoreTerms.FULL;
    private static final int MIN = Integer.MIN_VALUE, MAX = Integer.MAX_VALUE;
    private static final int RICH = Made.rich().count(0);
    private static final int[] JOINS = {3, 5, 6};

    public static void main(String[] args) {
        Check check = new Check("bounds of making");
        numberBounds(check);
        numberFull(check);
        nameBounds(check);
        nameFull(check);
        functionBounds(check);
        functionBad(check);
        functionFull(check);
        letBounds(check);
        letBad(check);
        letFull(check);
        joinKinds(check);
        joinThirdDoesNotMatter(check);
        joinBad(check);
        joinFullOfTerms(check);
        joinFullOfSize(check);
        joinFullOfDepth(check);
        termsNeverChange(check);
        check.end();
    }

    private static void numberBounds(Check check) {
        check.sentence(5, "A NUMBER: the TERM; n is an int");
        CoreTerms core = new CoreTerms();
        int[] numbers = {0, 1, -1, -2, -3, MIN, MIN + 1, MAX, MAX - 1};
        for (int i = 0; i < numbers.length; i++) {
            check.due("number(" + numbers[i] + ")", core.number(numbers[i]), i);
            check.due("its n", core.told(i, 3), numbers[i]);
        }
        check.due("the same again is another TERM", core.number(0), numbers.length);
    }

    private static void numberFull(Check check) {
        check.sentence(5, "FULL");
        CoreTerms core = Made.fullOfTerms(1);
        check.due("the 400th", core.number(MIN), 399);
        check.due("its n", core.told(399, 3), MIN);
        check.due("the 401st", core.number(1), FULL);
        check.due("TERMS", core.count(0), 400);
        for (int n : new int[] {0, -1, MIN, MAX}) {
            check.refused("number(" + n + ")", () -> Made.fullOfTerms(0, "(a+b)"), full -> full.number(n), FULL);
        }
    }

    private static void nameBounds(Check check) {
        check.sentence(6, "A NAME: a .. z (0 .. 25)");
        CoreTerms core = new CoreTerms();
        for (int x = 0; x < 26; x++) {
            check.due("name(" + x + ")", core.name(x), x);
            check.due("its x", core.told(x, 4), x);
        }
        check.due("the same again is another TERM", core.name(25), 26);
        check.sentence(6, "BAD");
        for (int wrong : Made.NO_LETTERS) {
            check.refused("name(" + wrong + ")", Made::rich, rich -> rich.name(wrong), BAD);
        }
    }

    private static void nameFull(Check check) {
        check.sentence(6, "FULL");
        CoreTerms core = Made.fullOfTerms(1);
        check.due("the 400th", core.name(25), 399);
        check.due("the 401st", core.name(25), FULL);
        check.refused("a", () -> Made.fullOfTerms(0, "(a+b)"), full -> full.name(0), FULL);
        check.refused("z", () -> Made.fullOfTerms(0, "(a+b)"), full -> full.name(25), FULL);
        check.sentence(6, "BAD, with no room");
        for (int wrong : Made.NO_LETTERS) {
            check.due("name(" + wrong + ")", core.name(wrong), BAD);
        }
    }

    private static void functionBounds(Check check) {
        check.sentence(7, "A FUNCTION: the first and the last letter, TYPE, TERM");
        CoreTerms core = Made.fullOfTypes(0);
        core.name(0);
        core.number(1);
        check.due("of the first of all", core.function(0, 0, 0), 2);
        check.due("of the last of all", core.function(25, 39, 2), 3);
        check.due("its x", core.told(3, 4), 25);
        check.due("its TYPE", core.told(3, 5), 39);
        check.due("its b", core.told(3, 6), 2);
    }

    private static void functionBad(Check check) {
        check.sentence(7, "BAD");
        for (int wrong : Made.NO_LETTERS) {
            check.refused("x " + wrong, Made::rich, core -> core.function(wrong, 0, 0), BAD);
        }
        for (int wrong : Made.notBelow(3)) {
            check.refused("TYPE " + wrong, Made::rich, core -> core.function(0, wrong, 0), BAD);
        }
        for (int wrong : Made.notBelow(RICH)) {
            check.refused("b " + wrong, Made::rich, core -> core.function(0, 0, wrong), BAD);
        }
        check.sentence(7, "BAD, with no room");
        CoreTerms full = Made.fullOfTerms(0);
        check.due("x", full.function(26, 0, 0), BAD);
        check.due("TYPE", full.function(0, 1, 0), BAD);
        check.due("b", full.function(0, 0, 400), BAD);
    }

    private static void functionFull(Check check) {
        check.sentence(7, "FULL: TERMS");
        check.due("the 400th", Made.fullOfTerms(1).function(0, 0, 398), 399);
        check.refused("the 401st", () -> Made.fullOfTerms(0), core -> core.function(0, 0, 399), FULL);
        check.sentence(7, "FULL: SIZE, 1000 at most");
        CoreTerms core = new CoreTerms();
        check.due("SIZE 1000", core.told(core.function(0, 0, Made.ofSize(core, 999)), 1), 1000);
        check.refused("SIZE 1001", () -> lastOfSize(1000), full -> full.function(0, 0, last(full)), FULL);
        check.sentence(7, "FULL: DEPTH, 40 at most");
        core = new CoreTerms();
        check.due("DEPTH 40", core.told(core.function(0, 0, Made.ofDepth(core, 39)), 2), 40);
        check.refused("DEPTH 41", () -> lastOfDepth(40), full -> full.function(0, 0, last(full)), FULL);
    }

    private static void letBounds(Check check) {
        check.sentence(8, "A LET: the first and the last letter, TERM");
        CoreTerms core = new CoreTerms();
        core.name(0);
        check.due("of the first of all", core.let(0, 0, 0), 1);
        check.due("of the last of all", core.let(25, 1, 1), 2);
        check.due("its x", core.told(2, 4), 25);
        check.due("its e", core.told(2, 6), 1);
        check.due("its b", core.told(2, 7), 1);
        check.due("e ahead of b", core.told(core.let(1, 0, 2), 6), 0);
    }

    private static void letBad(Check check) {
        check.sentence(8, "BAD");
        for (int wrong : Made.NO_LETTERS) {
            check.refused("x " + wrong, Made::rich, core -> core.let(wrong, 0, 0), BAD);
        }
        for (int wrong : Made.notBelow(RICH)) {
            check.refused("e " + wrong, Made::rich, core -> core.let(0, wrong, 0), BAD);
            check.refused("b " + wrong, Made::rich, core -> core.let(0, 0, wrong), BAD);
        }
        check.sentence(8, "BAD, with no room");
        CoreTerms full = Made.fullOfTerms(0);
        check.due("x", full.let(26, 0, 0), BAD);
        check.due("e", full.let(0, 400, 0), BAD);
        check.due("b", full.let(0, 0, 400), BAD);
    }

    private static void letFull(Check check) {
        check.sentence(8, "FULL: TERMS");
        check.due("the 400th", Made.fullOfTerms(1).let(0, 398, 398), 399);
        check.refused("the 401st", () -> Made.fullOfTerms(0), core -> core.let(0, 399, 399), FULL);
        check.sentence(8, "FULL: SIZE, 1000 at most");
        for (int ofE : new int[] {1, 2, 499, 500, 997, 998}) {
            CoreTerms core = new CoreTerms();
            int e = Made.ofSize(core, ofE), b = Made.ofSize(core, 999 - ofE), more = Made.ofSize(core, 1000 - ofE);
            check.due("SIZE 1000, of e " + ofE, core.told(core.let(0, e, b), 1), 1000);
            check.due("SIZE 1000, the other way round", core.told(core.let(0, b, e), 1), 1000);
            check.refused("SIZE 1001, of e " + ofE, core, () -> core.let(0, e, more), FULL);
            check.refused("SIZE 1001, the other way round", core, () -> core.let(0, more, e), FULL);
        }
        check.sentence(8, "FULL: DEPTH, 40 at most");
        CoreTerms core = lastOfDepth(40);
        int of40 = last(core), of39 = of40 - 1;
        check.due("DEPTH 40 by e", core.told(core.let(0, of39, 0), 2), 40);
        check.due("DEPTH 40 by b", core.told(core.let(0, 0, of39), 2), 40);
        check.refused("DEPTH 41 by e", () -> lastOfDepth(40), full -> full.let(0, last(full), 0), FULL);
        check.refused("DEPTH 41 by b", () -> lastOfDepth(40), full -> full.let(0, 0, last(full)), FULL);
    }

    private static void joinKinds(Check check) {
        check.sentence(9, "A CALL (kind 3), SUM (5), CHOICE (6)");
        for (int kind : JOINS) {
            CoreTerms core = new CoreTerms();
            core.number(1);
            check.due("join " + kind, core.join(kind, 0, 0, 0), 1);
            check.due("its KIND", core.told(1, 0), kind);
        }
        check.sentence(9, "BAD: also another kind");
        for (int kind : new int[] {0, 1, 2, 4, 7, 8, -1, -2, -3, -5, 35, 259, MIN, MAX}) {
            check.refused("join " + kind, Made::rich, core -> core.join(kind, 0, 0, 0), BAD);
        }
    }

    private static void joinThirdDoesNotMatter(Check check) {
        for (int kind : new int[] {3, 5}) {
            check.sentence(9, kind == 3 ? "c does not matter" : "likewise");
            CoreTerms core = lastOfDepth(40);
            for (int c : new int[] {-1, NONE, FULL, MIN, MAX, 400, core.count(0), 39}) {
                int t = core.join(kind, 0, 0, c);
                check.due("c " + c, t, core.count(0) - 1);
                check.due("its third PART", core.told(t, 8), NONE);
                check.due("its SIZE", core.told(t, 1), 3);
                check.due("its DEPTH", core.told(t, 2), 2);
            }
        }
    }

    private static void joinBad(Check check) {
        check.sentence(9, "BAD");
        for (int kind : JOINS) {
            for (int wrong : Made.notBelow(RICH)) {
                check.refused(kind + " of a " + wrong, Made::rich, core -> core.join(kind, wrong, 0, 0), BAD);
                check.refused(kind + " of b " + wrong, Made::rich, core -> core.join(kind, 0, wrong, 0), BAD);
            }
        }
        for (int wrong : Made.notBelow(RICH)) {
            check.refused("a CHOICE of c " + wrong, Made::rich, core -> core.join(6, 0, 0, wrong), BAD);
        }
        check.sentence(9, "BAD, with no room");
        CoreTerms full = Made.fullOfTerms(0);
        for (int kind : JOINS) {
            check.due("a of " + kind, full.join(kind, 400, 0, 0), BAD);
            check.due("b of " + kind, full.join(kind, 0, 400, 0), BAD);
        }
        check.due("c of a CHOICE", full.join(6, 0, 0, 400), BAD);
        check.due("another kind", full.join(4, 0, 0, 0), BAD);
    }

    private static void joinFullOfTerms(Check check) {
        check.sentence(9, "FULL: TERMS");
        for (int kind : JOINS) {
            check.due("the 400th", Made.fullOfTerms(1).join(kind, 398, 398, 398), 399);
            check.refused("the 401st", () -> Made.fullOfTerms(0), core -> core.join(kind, 399, 399, 399), FULL);
        }
    }

    private static void joinFullOfSize(Check check) {
        check.sentence(9, "FULL: SIZE, 1000 at most");
        for (int ofA : new int[] {1, 2, 499, 500, 997, 998}) {
            CoreTerms core = new CoreTerms();
            int a = Made.ofSize(core, ofA), b = Made.ofSize(core, 999 - ofA), more = Made.ofSize(core, 1000 - ofA);
            for (int kind : new int[] {3, 5}) {
                check.due(kind + " of SIZE 1000, of a " + ofA, core.told(core.join(kind, a, b, 0), 1), 1000);
                check.refused(kind + " of SIZE 1001, of a " + ofA, core, () -> core.join(kind, a, more, 0), FULL);
                check.refused(kind + " of SIZE 1001, of b " + ofA, core, () -> core.join(kind, more, a, 0), FULL);
            }
        }
        CoreTerms core = new CoreTerms();
        int one = core.number(1), of997 = Made.ofSize(core, 997), of998 = Made.ofSize(core, 998);
        int of333 = Made.ofSize(core, 333), of334 = Made.ofSize(core, 334);
        check.due("thrice 333", core.told(core.join(6, of333, of333, of333), 1), 1000);
        check.refused("334 first", core, () -> core.join(6, of334, of333, of333), FULL);
        check.refused("334 second", core, () -> core.join(6, of333, of334, of333), FULL);
        check.refused("334 third", core, () -> core.join(6, of333, of333, of334), FULL);
        check.due("997 first", core.told(core.join(6, of997, one, one), 1), 1000);
        check.due("997 second", core.told(core.join(6, one, of997, one), 1), 1000);
        check.due("997 third", core.told(core.join(6, one, one, of997), 1), 1000);
        check.refused("998 first", core, () -> core.join(6, of998, one, one), FULL);
        check.refused("998 second", core, () -> core.join(6, one, of998, one), FULL);
        check.refused("998 third", core, () -> core.join(6, one, one, of998), FULL);
    }

    private static void joinFullOfDepth(Check check) {
        check.sentence(9, "FULL: DEPTH, 40 at most");
        for (int kind : JOINS) {
            for (int place = 0; place < (kind == 6 ? 3 : 2); place++) {
                int where = place;
                CoreTerms core = lastOfDepth(40);
                check.due(kind + " of DEPTH 40 by PART " + place, core.told(joined(core, kind, where, last(core) - 1), 2), 40);
                check.refused(kind + " of DEPTH 41 by PART " + place, () -> lastOfDepth(40),
                    full -> joined(full, kind, where, last(full)), FULL);
            }
        }
    }

    /** TERM 0 in all places but one. */
    private static int joined(CoreTerms core, int kind, int place, int t) {
        return core.join(kind, place == 0 ? t : 0, place == 1 ? t : 0, place == 2 ? t : 0);
    }

    private static void termsNeverChange(Check check) {
        check.sentence(9, "TERMS are numbered as they come, and never change");
        CoreTerms core = Made.rich();
        String before = terms(core, RICH);
        int last = RICH - 1;
        core.function(0, 0, last);
        core.let(0, last, last);
        for (int kind : JOINS) {
            core.join(kind, last, last, last);
        }
        for (int t = 0; t < RICH; t++) {
            core.put(t, 0, last);
            core.run(t, 50);
            core.drop(t);
            core.type(t);
            core.print(t);
        }
        check.due("those that were there", terms(core, RICH), before);
    }

    private static String terms(CoreTerms core, int total) {
        StringBuilder told = new StringBuilder();
        for (int t = 0; t < total; t++) {
            for (int what = 0; what < 9; what++) {
                told.append(core.told(t, what)).append(' ');
            }
        }
        return told.toString();
    }

    private static CoreTerms lastOfSize(int size) {
        CoreTerms core = new CoreTerms();
        Made.ofSize(core, size);
        return core;
    }

    private static CoreTerms lastOfDepth(int depth) {
        CoreTerms core = new CoreTerms();
        Made.ofDepth(core, depth);
        return core;
    }

    private static int last(CoreTerms core) {
        return core.count(0) - 1;
    }
}
