/** Promises 1 to 4: a new object, arrow, side, declare. */
public final class TypesTest {
    public static void main(String[] args) {
        Check check = new Check("types");
        newObject(check);
        arrows(check);
        mostTypes(check);
        mostLength(check);
        sides(check);
        declared(check);
        check.end();
    }

    private static void newObject(Check check) {
        CoreTerms core = new CoreTerms();
        check.due("count(0)", core.count(0), 0);
        check.due("count(1)", core.count(1), 1);
        check.due("count(2)", core.count(2), 0);
        check.due("count(3)", core.count(3), 0);
        check.due("fault(0)", core.fault(0), 0);
        check.due("fault(1)", core.fault(1), CoreTerms.NONE);
        check.due("ran()", core.ran(), 0);
        check.due("read()", core.read(), -10);
        check.due("at(0)", core.at(0), CoreTerms.BAD);
        check.due("side(0, 0)", core.side(0, 0), CoreTerms.NONE);
        for (int x = 0; x < 26; x++) {
            int t = core.name(x);
            check.due("name " + x, t, x);
            check.due("type of an undeclared name", core.type(t), CoreTerms.NONE);
            check.due("its fault", core.fault(0), 1);
            check.due("its fault's place", core.fault(1), t);
        }
        check.due("another object", new CoreTerms().count(0), 0);
    }

    private static void arrows(Check check) {
        CoreTerms core = new CoreTerms();
        check.due("i>i", core.arrow(0, 0), 1);
        check.due("i>i again", core.arrow(0, 0), 1);
        check.due("i>(i>i)", core.arrow(0, 1), 2);
        check.due("(i>i)>i", core.arrow(1, 0), 3);
        check.due("i>(i>i) again", core.arrow(0, 1), 2);
        check.due("count(1)", core.count(1), 4);
        int[][] wrong = {{-1, 0}, {0, -1}, {4, 0}, {0, 4}, {-2, 0}, {0, -2}, {40, 0}, {0, 40},
            {Integer.MAX_VALUE, 0}, {0, Integer.MIN_VALUE}};
        for (int[] pair : wrong) {
            check.refused("arrow(" + pair[0] + ", " + pair[1] + ")", core,
                () -> core.arrow(pair[0], pair[1]), CoreTerms.BAD);
        }
    }

    private static void mostTypes(Check check) {
        CoreTerms core = new CoreTerms();
        int made = 1;
        for (int from = 0; from < 6 && made < 40; from++) {
            for (int to = 0; to <= from + 1 && to < 7 && made < 40; to++) {
                check.due("arrow " + made, core.arrow(from, to), made);
                made++;
            }
        }
        for (int to = 0; made < 40; to++) {
            int before = core.count(1);
            int got = core.arrow(6, to);
            check.due("arrow(6, " + to + ")", got >= 0 ? 1 : 0, 1);
            made += core.count(1) - before;
        }
        check.due("count(1)", core.count(1), 40);
        check.refused("one more", core, () -> core.arrow(0, 39), CoreTerms.FULL);
        check.due("one that is there", core.arrow(0, 0), 1);
        check.refused("BAD ahead of FULL", core, () -> core.arrow(0, 40), CoreTerms.BAD);
        int t = core.number(1);
        int f = core.function(0, 39, t);
        check.refused("type that needs one more", core, () -> core.type(f), CoreTerms.FULL);
        check.due("type that is there", core.type(core.function(0, 0, t)), 1);
        check.due("its terms stay", core.count(0), 3);
    }

    private static void mostLength(Check check) {
        CoreTerms core = new CoreTerms();
        int longest = 0;
        for (int length = 5; length <= 37; length += 4) {
            longest = core.arrow(longest, 0);
            check.due("LENGTH " + length, longest >= 0 ? 1 : 0, 1);
        }
        int of37 = longest;
        check.due("count(1)", core.count(1), 10);
        check.refused("LENGTH 41", core, () -> core.arrow(of37, 0), CoreTerms.FULL);
        check.refused("LENGTH 41, the other side", core, () -> core.arrow(0, of37), CoreTerms.FULL);
        check.refused("LENGTH 77", core, () -> core.arrow(of37, of37), CoreTerms.FULL);
        int f = core.function(0, of37, core.number(1));
        check.refused("a function from LENGTH 37", core, () -> core.type(f), CoreTerms.FULL);
    }

    private static void sides(Check check) {
        CoreTerms core = new CoreTerms();
        core.arrow(0, 0);
        core.arrow(1, 0);
        core.arrow(2, 1);
        check.due("side(2, 0)", core.side(2, 0), 1);
        check.due("side(2, 1)", core.side(2, 1), 0);
        check.due("side(3, 0)", core.side(3, 0), 2);
        check.due("side(3, 1)", core.side(3, 1), 1);
        check.due("side(0, 0)", core.side(0, 0), CoreTerms.NONE);
        check.due("side(0, 1)", core.side(0, 1), CoreTerms.NONE);
        int[][] wrong = {{4, 0}, {-1, 0}, {-2, 1}, {40, 0}, {1, 2}, {1, -1}, {0, 2}, {0, -1},
            {Integer.MAX_VALUE, 1}, {Integer.MIN_VALUE, 0}, {1, Integer.MIN_VALUE}};
        for (int[] pair : wrong) {
            check.due("side(" + pair[0] + ", " + pair[1] + ")", core.side(pair[0], pair[1]), CoreTerms.BAD);
        }
    }

    private static void declared(Check check) {
        CoreTerms core = new CoreTerms();
        core.arrow(0, 0);
        int a = core.name(0);
        int z = core.name(25);
        check.due("declare(0, 1)", core.declare(0, 1), 1);
        check.due("declare(25, 0)", core.declare(25, 0), 1);
        check.due("type a", core.type(a), 1);
        check.due("type z", core.type(z), 0);
        check.due("declare(0, 0)", core.declare(0, 0), 1);
        check.due("type a, declared anew", core.type(a), 0);
        int[][] wrong = {{-1, 0}, {26, 0}, {0, 2}, {0, -1}, {0, -3}, {26, -2}, {-1, -2},
            {Integer.MAX_VALUE, 0}, {0, Integer.MAX_VALUE}, {Integer.MIN_VALUE, 0}};
        for (int[] pair : wrong) {
            check.due("declare(" + pair[0] + ", " + pair[1] + ")", core.declare(pair[0], pair[1]), CoreTerms.BAD);
        }
        check.due("type a stays", core.type(a), 0);
        check.due("declare(0, NONE)", core.declare(0, CoreTerms.NONE), 1);
        check.due("type a", core.type(a), CoreTerms.NONE);
        check.due("type z stays", core.type(z), 0);
        check.due("declare(0, NONE) again", core.declare(0, CoreTerms.NONE), 1);
        check.due("count(1)", core.count(1), 2);
    }
}
