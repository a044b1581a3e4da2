/** Promises 22 to 26: print, at, feed, copy, read. */
public final class TextsTest {
    private static final int BAD = CoreTerms.BAD, NONE = CoreTerms.NONE, FULL = CoreTerms.FULL;
    private static final String TERM_BEGINS = "-0123456789abcdefghijklmnopqrstuvwxyz\\([{", TYPE_BEGINS = "i(";
    private static final String[] TERM_PARTS = {"(", "(1 ", "(1+", "[a=", "[a=1]", "{", "{1?", "{1?2:", "\\a:i."};

    public static void main(String[] args) {
        Check check = new Check("texts");
        prints(check);
        mostPrint(check);
        mostPrintOfEachKind(check);
        bytes(check);
        feeds(check);
        copies(check);
        readsBack(check);
        wrongBytes(check);
        readNumbers(check);
        readsInOrder(check);
        nestedTerms(check);
        nestedTypes(check);
        nestedTypesInTerms(check);
        fortyFirstTerms(check);
        fortyFirstTypes(check);
        readFullOfTerms(check);
        readFullOfTypes(check);
        check.end();
    }

    private static void prints(Check check) {
        CoreTerms core = new CoreTerms();
        int[] numbers = {0, 9, 10, -1, -10, 99, 100, 1234567890, Integer.MAX_VALUE, Integer.MIN_VALUE};
        for (int n : numbers) {
            int t = core.number(n);
            check.due("length of " + n, core.print(t), Integer.toString(n).length());
            check.due("text of " + n, Check.printed(core), Integer.toString(n));
        }
        int arrow = core.arrow(core.arrow(0, 0), 0);
        int a = core.name(0), z = core.name(25);
        int f = core.function(25, arrow, z);
        check.due("a function", Check.text(core, f), "\\z:((i>i)>i).z");
        check.due("a function of INT", Check.text(core, core.function(0, 0, a)), "\\a:i.a");
        check.due("a call", Check.text(core, core.join(3, f, a, 0)), "(\\z:((i>i)>i).z a)");
        check.due("a let", Check.text(core, core.let(1, a, z)), "[b=a]z");
        check.due("a sum", Check.text(core, core.join(5, a, z, 0)), "(a+z)");
        int choice = core.join(6, a, z, f);
        check.due("length of a choice", core.print(choice), 20);
        check.due("a choice", Check.printed(core), "{a?z:\\z:((i>i)>i).z}");
    }

    private static void mostPrint(Check check) {
        CoreTerms core = new CoreTerms();
        int arrow = core.arrow(0, 0);
        int least = core.number(Integer.MIN_VALUE);
        int t = least;
        for (int i = 0; i < 8; i++) {
            t = core.join(5, t, t, 0);
        }
        check.due("256 numbers of 11", core.print(t), 256 * 11 + 255 * 3);
        t = core.join(5, t, 4, 0);
        check.due("and 16 more", core.print(t), 3581 + 3 + 16 * 11 + 15 * 3);
        t = core.join(5, t, 3, 0);
        check.due("and 8 more", core.print(t), 3805 + 3 + 8 * 11 + 7 * 3);
        t = core.join(5, t, 2, 0);
        check.due("and 4 more", core.print(t), 3917 + 3 + 4 * 11 + 3 * 3);
        t = core.join(5, t, core.number(1234567890), 0);
        check.due("and one of 10", core.print(t), 3973 + 13);
        t = core.function(0, 0, t);
        check.due("in a function", core.print(t), 3986 + 5);
        int whole = core.function(1, arrow, t);
        check.due("in a function of an arrow", core.print(whole), 4000);
        check.due("the first byte", core.at(0), 92);
        check.due("the last byte", core.at(3999), ')');
        check.due("no more bytes", core.at(4000), BAD);
        int more = core.let(0, core.number(1), core.function(1, 0, t));
        check.due("in a let", more, core.count(0) - 1);
        core.print(least);
        check.refused("4001", core, () -> core.print(more), FULL);
        check.due("THE PRINT stays", Check.printed(core), "-2147483648");
        int far = core.let(0, whole, 0);
        check.refused("far above", core, () -> core.print(far), FULL);
    }

    /** A term of each kind whose text has 4000 bytes, and one byte more. */
    private static void mostPrintOfEachKind(Check check) {
        for (int kind = 1; kind <= 6; kind++) {
            for (int more = 0; more <= 1; more++) {
                CoreTerms core = new CoreTerms();
                int t = core.number(Integer.MIN_VALUE);
                for (int i = 0; i < 8; i++) {
                    t = core.join(5, t, t, 0);
                }
                t = core.join(5, t, 4, 0);
                t = core.join(5, t, 3, 0);
                int a = core.name(0);
                // 3917 till here; what stands around it has 83 bytes
                for (int i = 0; i < 10; i++) {
                    t = around(core, kind, t, a);
                }
                int rest = 4000 + more - core.print(t);
                check.due("room is left", rest >= 4 ? 1 : 0, 1);
                for (; rest >= 8; rest -= 4) {
                    t = core.join(5, t, a, 0);
                }
                int[] filling = {1, 12, 123, 1234};
                int whole = core.join(5, t, core.number(filling[rest - 4]), 0);
                check.due("KIND " + kind + ", " + (4000 + more), core.print(whole), more == 0 ? 4000 : FULL);
            }
        }
    }

    private static int around(CoreTerms core, int kind, int t, int a) {
        switch (kind) {
            case 2: return core.function(0, 0, t);
            case 4: return core.let(0, a, t);
            case 6: return core.join(6, a, a, t);
            case 3: return core.join(3, a, t, 0);
            default: return core.join(5, a, t, 0);
        }
    }

    private static void bytes(Check check) {
        CoreTerms core = new CoreTerms();
        int t = Check.read(core, "\\a:(i>i).{(a 1)?[b=-2]b:(3+4)}");
        check.due("print", core.print(t), 30);
        String text = "\\a:(i>i).{(a 1)?[b=-2]b:(3+4)}";
        for (int i = 0; i < text.length(); i++) {
            check.due("at(" + i + ")", core.at(i), text.charAt(i));
        }
        for (int i : new int[] {-1, 30, 4000, Integer.MAX_VALUE, Integer.MIN_VALUE}) {
            check.due("at(" + i + ")", core.at(i), BAD);
        }
        core.print(core.number(5));
        check.due("a shorter one", core.count(3), 1);
        check.due("at(1) is gone", core.at(1), BAD);
        for (int wrong : new int[] {-1, core.count(0), 400, Integer.MAX_VALUE, Integer.MIN_VALUE}) {
            check.refused("print(" + wrong + ")", core, () -> core.print(wrong), BAD);
        }
        check.due("THE PRINT stays", Check.printed(core), "5");
    }

    private static void feeds(Check check) {
        CoreTerms core = new CoreTerms();
        check.due("the lowest byte alone", core.feed(0x7A7A7A7A7A7A7A61L, 1), 1);
        int t = core.read();
        check.due("is read", core.told(t, 4), 0);
        check.due("the highest first", core.feed(0x2861L, 2), 2);
        check.due("behind", core.feed(0x2B6229L, 3), 5);
        check.due("in order", Check.text(core, core.read()), "(a+b)");
        check.due("eight", core.feed(0x2861612B62622929L, 8), 8);
        check.due("cannot stand there", core.read(), -12);
        check.due("bytes above 127", core.feed(-1L, 8), 8);
        check.due("cannot begin", core.read(), -10);
        for (int n : new int[] {0, -1, 9, Integer.MAX_VALUE, Integer.MIN_VALUE}) {
            check.refused("feed(0, " + n + ")", core, () -> core.feed(0L, n), BAD);
        }
        for (int i = 1; i <= 74; i++) {
            check.due("feed", core.feed(0L, 8), 8 * i);
        }
        check.due("599", core.feed(0L, 7), 599);
        check.refused("601", core, () -> core.feed(0L, 2), FULL);
        check.refused("607", core, () -> core.feed(0L, 8), FULL);
        check.refused("n is asked first", core, () -> core.feed(0L, 9), BAD);
        check.due("600", core.feed(0L, 1), 600);
        check.refused("one more", core, () -> core.feed(0L, 1), FULL);
        check.due("read", core.read(), -10);
        check.due("empty behind it", core.count(2), 0);
    }

    private static void copies(Check check) {
        CoreTerms core = new CoreTerms();
        check.due("of nothing", core.copy(), 0);
        int t = Check.read(core, "(a+12)");
        core.print(t);
        Check.feed(core, "zzzzzzzzzzzzzzz");
        check.due("instead of what was there", core.copy(), 6);
        check.due("THE TAPE", core.count(2), 6);
        check.due("THE PRINT stays", Check.printed(core), "(a+12)");
        check.due("more behind it", core.feed('!', 1), 7);
        check.due("read", core.read(), -16);
        check.due("copy again", core.copy(), 6);
        check.due("alike", core.alike(core.read(), t), 1);
        int big = core.number(1);
        for (int i = 0; i < 7; i++) {
            big = core.join(5, big, big, 0);
        }
        int pad = core.number(1234567890);
        int of509 = big;
        check.due("509", core.print(of509), 509);
        int of522 = core.join(5, of509, pad, 0);
        int t600 = of522;
        for (int i = 0; i < 6; i++) {
            t600 = core.join(5, t600, pad, 0);
        }
        check.due("600", core.print(t600), 600);
        check.due("copy of 600", core.copy(), 600);
        check.refused("and full", core, () -> core.feed(0L, 1), FULL);
        int t601 = core.join(5, (int) core.told(t600, 6), core.number(-1234567890), 0);
        check.due("601", core.print(t601), 601);
        check.refused("copy of 601", core, core::copy, FULL);
        check.due("THE TAPE stays", core.count(2), 600);
        core.print(core.number(7));
        check.due("a shorter copy", core.copy(), 1);
        check.due("read", core.told(core.read(), 3), 7);
    }

    private static void readsBack(Check check) {
        String[] texts = {"0", "-1", "2147483647", "-2147483648", "a", "z", "\\a:i.b", "\\z:((i>i)>(i>i)).z", "(a b)", "(a+b)",
            "[a=b]c", "{a?b:c}", "((a b)+[c={1?2:-3}]\\d:(i>i).(d c))", "(-1+-2)", "{-1?-2:-3}", "[a=-1]-2", "\\a:i.-5",
            "\\a:i.\\b:i.\\c:i.((a+b)+c)", "\\a:(((i>i)>i)>(i>(i>i))).a"};
        for (String text : texts) {
            CoreTerms core = new CoreTerms();
            int t = Check.read(core, text);
            check.due("the last TERM of " + text, t, core.count(0) - 1);
            check.due("read and printed", Check.text(core, t), text);
            check.due("THE TAPE is empty", core.count(2), 0);
            check.due("SIZE", core.told(t, 1), core.count(0));
        }
    }

    private static void wrong(Check check, String text, int place) {
        CoreTerms core = new CoreTerms();
        core.number(3);
        core.print(0);
        check.due("read " + text, Check.read(core, text), -10 - place);
        check.due("TERMS", core.count(0), 1);
        check.due("TYPES", core.count(1), 1);
        check.due("THE TAPE", core.count(2), 0);
        check.due("THE PRINT", Check.printed(core), "3");
    }

    private static void wrongBytes(Check check) {
        Object[][] rows = {{"", 0}, {" ", 0}, {"A", 0}, {"`", 0}, {"{", 1}, {")", 0}, {"a ", 1}, {"ab", 1}, {"1 ", 1}, {"\u00e1", 0},
            {"\u0000", 0}, {"\\", 1}, {"\\1", 1}, {"\\a", 2}, {"\\a.", 2}, {"\\a:", 3}, {"\\a:a", 3}, {"\\a:i", 4}, {"\\a:ii", 4},
            {"\\a:i.", 5}, {"\\a:i.)", 5}, {"\\a:(", 4}, {"\\a:(i", 5}, {"\\a:(i)", 5}, {"\\a:(i>", 6}, {"\\a:(i>i", 7},
            {"\\a:(i>i>i).a", 7}, {"\\a:(i>i)a", 8}, {"\\a:(i>(i>i)).a)", 14}, {"\\a:i.aa", 6}, {"\\A:i.a", 1}, {"\\a:).a", 3},
            {"(", 1}, {"()", 1}, {"(a", 2}, {"(a)", 2}, {"(a  b)", 3}, {"(a+", 3}, {"(a+b", 4}, {"(a+b+c)", 4}, {"(a b c)", 4},
            {"(a b))", 5}, {"(a + b)", 3}, {"(a-b)", 2}, {"(a b+c)", 4}, {"[", 1}, {"[1", 1}, {"[a", 2}, {"[a:", 2}, {"[a=", 3},
            {"[a=1", 4}, {"[a=1 ", 4}, {"[a=1]", 5}, {"[a=1]]", 5}, {"[a=1]bb", 6}, {"[a=]b", 3}, {"{}", 1}, {"{a", 2}, {"{a:", 2},
            {"{a?", 3}, {"{a?b", 4}, {"{a?b?", 4}, {"{a?b:", 5}, {"{a?b:c", 6}, {"{a?b:c)", 6}, {"{a?b:c}}", 7}, {"{a?b}", 4},
            {"\\a:(i>i).(a \\b:((i>i)>i).!", 25}};
        for (Object[] row : rows) {
            wrong(check, (String) row[0], (Integer) row[1]);
        }
    }

    private static void readNumbers(Check check) {
        Object[][] rows = {{"-", 1}, {"--1", 1}, {"-0", 1}, {"-01", 1}, {"00", 1}, {"01", 1}, {"-a", 1}, {"1-", 1}, {"+1", 0},
            {"2147483648", 9}, {"-2147483649", 10}, {"9999999999", 9}, {"21474836470", 10}, {"-21474836480", 11},
            {"(2147483648+1)", 10}, {"99999999999999999999999999", 9}, {"3000000000", 9}, {"(1+-0)", 4}, {"(0+00)", 4},
            {"18446744073709551617", 10}, {"1a", 1}, {"12/", 2}, {"12:", 2}};
        for (Object[] row : rows) {
            wrong(check, (String) row[0], (Integer) row[1]);
        }
        CoreTerms core = new CoreTerms();
        check.due("-2147483648", core.told(Check.read(core, "-2147483648"), 3), Integer.MIN_VALUE);
        check.due("2147483647", core.told(Check.read(core, "2147483647"), 3), Integer.MAX_VALUE);
        check.due("-1000000000", core.told(Check.read(core, "-1000000000"), 3), -1000000000);
        check.due("0", core.told(Check.read(core, "0"), 3), 0);
    }

    private static void readsInOrder(Check check) {
        CoreTerms core = new CoreTerms();
        int t = Check.read(core, "[a=(1 2)]{a?\\b:((i>i)>(i>i)).3:4}");
        String[] due = {"1", "2", "(1 2)", "a", "3", "\\b:((i>i)>(i>i)).3", "4", "{a?\\b:((i>i)>(i>i)).3:4}"};
        for (int i = 0; i < due.length; i++) {
            check.due("TERM " + i, Check.text(core, i), due[i]);
        }
        check.due("the let", t, due.length);
        check.due("ARROWS that came", core.count(1), 3);
        check.due("the inner first", core.side(2, 0) * 10 + core.side(2, 1), 11);
        check.due("the same again comes anew", Check.read(core, "(1 2)"), t + 3);
        check.due("an ARROW that is there does not", Check.read(core, "\\a:(i>i).a") > 0 ? core.count(1) : -1, 3);
        core.arrow(1, 0);
        Check.read(core, "\\a:(i>((i>i)>i)).a");
        check.due("a new one of one that is there", core.side(4, 0) * 10 + core.side(4, 1), 3);
    }

    /** TERMS alone: the 40th within one another, and the 41st. */
    private static void nestedTerms(Check check) {
        String[][] parts = {{"(", " 1)"}, {"(1 ", ")"}, {"(", "+1)"}, {"(1+", ")"}, {"[a=", "]1"}, {"[a=1]", ""}, {"{", "?1:2}"},
            {"{1?", ":2}"}, {"{1?2:", "}"}, {"\\a:i.", ""}};
        for (String[] part : parts) {
            String forty = times(part[0], 40);
            CoreTerms core = new CoreTerms();
            int t = Check.read(core, times(part[0], 39) + "a" + times(part[1], 39));
            check.due("40 deep by " + part[0] + part[1], core.told(t, 2), 40);
            core.clear();
            refusedRead(check, core, times(part[0], 39) + "!", -10 - 39 * part[0].length());
            refusedRead(check, core, times(part[0], 39), -10 - 39 * part[0].length());
            refusedRead(check, core, forty + "a" + times(part[1], 40), FULL);
            refusedRead(check, core, forty + part[0], FULL);
            refusedRead(check, core, forty + "1", FULL);
            refusedRead(check, core, forty + "a!", FULL);
            endsBehindForty(check, core, times(part[0], 39));
        }
        CoreTerms core = new CoreTerms();
        refusedRead(check, core, "a!", -11);
        refusedRead(check, core, "(" + times("(", 38) + "1", -50);
        refusedRead(check, core, times("(", 39) + "1!", -50);
    }

    /** The 40th has begun, and what would be the 41st has no byte: the end is told, at whichever byte it comes. */
    private static void endsBehindForty(Check check, CoreTerms core, String around) {
        for (String fortieth : new String[] {"(", "[a=", "{", "\\a:"}) {
            for (int n = 0; n <= fortieth.length(); n++) {
                refusedRead(check, core, around + fortieth.substring(0, n), -10 - around.length() - n);
            }
            refusedRead(check, core, around + fortieth + "i", FULL);
        }
    }

    /** TYPES alone, but for the FUNCTION that must be around them: it is the first, so the 39th TYPE is the 40th of all. */
    private static void nestedTypes(Check check) {
        CoreTerms core = new CoreTerms();
        for (String part : new String[] {"(", "(i>"}) {
            String ahead = "\\a:" + times(part, 38), above = "\\a:" + times(part, 39);
            refusedRead(check, core, ahead, -10 - ahead.length());
            refusedRead(check, core, ahead + "!", -10 - ahead.length());
            refusedRead(check, core, ahead + "i", -10 - ahead.length() - 1);
            refusedRead(check, core, ahead + "i!", -10 - ahead.length() - 1);
            refusedRead(check, core, ahead + "(", -10 - ahead.length() - 1);
            // the first i in the fortieth is itself the 41st
            refusedRead(check, core, above + "!", part.equals("(") ? -10 - above.length() : FULL);
            refusedRead(check, core, above + "i", FULL);
            refusedRead(check, core, above + "(", FULL);
            refusedRead(check, core, above + "i!", FULL);
        }
        refusedRead(check, core, "\\a:" + times("(i>", 11) + "i!", -10 - 37);
        refusedRead(check, core, "\\a:" + times("(i>", 11) + "i" + times(")", 10) + "!", FULL);
    }

    /** TYPES within TERMS: both are counted, at each mixture of them. */
    private static void nestedTypesInTerms(Check check) {
        String[] parts = {"(", "(1 ", "[a=", "[a=1]", "{1?2:", "\\b:i."};
        for (String part : parts) {
            for (int around = 0; around <= 38; around++) {
                CoreTerms core = new CoreTerms();
                String ahead = times(part, around) + "\\a:" + times("(", 38 - around);
                refusedRead(check, core, ahead, -10 - ahead.length());
                refusedRead(check, core, ahead + "!", -10 - ahead.length());
                refusedRead(check, core, ahead + "i!", -10 - ahead.length() - 1);
                refusedRead(check, core, ahead + "(", -10 - ahead.length() - 1);
                refusedRead(check, core, ahead + "(i", FULL);
                refusedRead(check, core, ahead + "((!", FULL);
                refusedRead(check, core, ahead + "(!", -10 - ahead.length() - 1);
            }
            String thirtyNine = times(part, 39);
            CoreTerms core = new CoreTerms();
            refusedRead(check, core, thirtyNine + "\\", -10 - thirtyNine.length() - 1);
            refusedRead(check, core, thirtyNine + "\\a!", -10 - thirtyNine.length() - 2);
            refusedRead(check, core, thirtyNine + "\\a:", -10 - thirtyNine.length() - 3);
            refusedRead(check, core, thirtyNine + "\\a:i", FULL);
            refusedRead(check, core, thirtyNine + "\\a:!", -10 - thirtyNine.length() - 3);
        }
        nestedWholeTypes(check);
    }

    private static void nestedWholeTypes(Check check) {
        // its innermost TYPES are the 10th within one another
        String longest = times("(", 9) + "i" + times(">i)", 9);
        for (int around = 0; around <= 38; around++) {
            CoreTerms core = new CoreTerms();
            int t = Check.read(core, times("[a=1]", around) + "\\a:" + longest + ".1");
            check.due("of LENGTH 37 within " + around, t, around <= 29 ? 2 * around + 1 : FULL);
            check.due("TYPES", core.count(1), around <= 29 ? 10 : 1);
            check.due("THE TAPE", core.count(2), 0);
        }
        CoreTerms core = new CoreTerms();
        check.due("a TYPE, then TERMS: not within one another",
            core.told(Check.read(core, "\\a:" + longest + "." + times("[a=1]", 38) + "1"), 2), 40);
        core.clear();
        refusedRead(check, core, "\\a:" + longest + "." + times("[a=1]", 39) + "1", FULL);
        check.due("DEPTH 40, INT at the 40th", core.told(Check.read(core, times("[a=1]", 38) + "\\a:i.1"), 2), 40);
        core.clear();
        check.due("the FROM of an ARROW at the 41st", Check.read(core, times("[a=1]", 38) + "\\a:(i>i).1"), FULL);
        check.due("its FUNCTION one less deep", core.told(Check.read(core, times("[a=1]", 37) + "\\a:(i>i).1"), 2), 39);
    }

    /** A 41st TERM is due, behind each byte behind which the first PART of a fortieth is, within each PART of the others. */
    private static void fortyFirstTerms(Check check) {
        for (String part : TERM_PARTS) {
            for (String fortieth : new String[] {"(", "[a=", "{"}) {
                fortyFirst(check, times(part, 39) + fortieth, TERM_BEGINS);
            }
            fortyFirst(check, times(part, 39) + "\\a:", TYPE_BEGINS);
        }
        CoreTerms core = new CoreTerms();
        for (String number : new String[] {"-", "-0", "-!", "00", "2147483648"}) {
            refusedRead(check, core, times("(", 40) + number, FULL);
        }
        for (String fortieth : new String[] {"[!", "\\!", "[a!", "\\a!"}) {
            refusedRead(check, core, times("(", 39) + fortieth, -10 - 39 - fortieth.length() + 1);
        }
    }

    /** A 41st TYPE is due, within FROM and TO of the others and within TERMS, from one FUNCTION alone to 39 around. */
    private static void fortyFirstTypes(Check check) {
        for (String typePart : new String[] {"(", "(i>"}) {
            for (int around = 0; around <= 38; around++) {
                String part = TERM_PARTS[around % TERM_PARTS.length];
                fortyFirst(check, times(part, around) + "\\a:" + times(typePart, 38 - around) + "(", TYPE_BEGINS);
            }
        }
        // whole ARROWS on the way: their own sides reach the fortieth, no further
        fortyFirst(check, times("\\a:(i>i).", 38) + "((", TERM_BEGINS);
        fortyFirst(check, "\\a:" + times("((i>i)>", 37) + "((", TYPE_BEGINS);
    }

    /** Forty have begun: each byte that begins what is due is FULL, each other one is told, and so is the end. */
    private static void fortyFirst(Check check, String ahead, String begins) {
        int toldPlace = -10 - ahead.length();
        CoreTerms core = new CoreTerms();
        refusedRead(check, core, ahead, toldPlace);
        for (char c = 0; c < 256; c++) {
            int due = begins.indexOf(c) >= 0 ? FULL : toldPlace;
            core = new CoreTerms();
            refusedRead(check, core, ahead + c, due);
            refusedRead(check, core, ahead + c + "!", due);
        }
    }

    private static void refusedRead(Check check, CoreTerms core, String text, int due) {
        int terms = core.count(0), types = core.count(1);
        check.due("read " + text, Check.read(core, text), due);
        check.due("TERMS behind " + text, core.count(0), terms);
        check.due("TYPES behind " + text, core.count(1), types);
        check.due("THE TAPE behind " + text, core.count(2), 0);
    }

    private static void readFullOfTerms(Check check) {
        CoreTerms core = new CoreTerms();
        while (core.count(0) < 398) {
            core.number(0);
        }
        Object[][] rows = {{"(1+2)", FULL}, {"(1+2", -14}, {"(1+2!", -14}, {"(1+(2+3!", FULL}, {"((1+2)!", FULL}, {"[a=1]2!", FULL},
            {"\\a:i.\\b:i.c!", FULL}, {"{1?2:!", -15}, {"{1?2:3!", FULL}, {"(1+2)!", FULL}, {"(12+34x", -16}, {"\\a:i.!", -15}};
        for (Object[] row : rows) {
            check.due("read " + row[0], Check.read(core, (String) row[0]), (Integer) row[1]);
            check.due("TERMS", core.count(0), 398);
            check.due("THE TAPE", core.count(2), 0);
        }
        check.due("two more", Check.read(core, "\\a:i.a"), 399);
        Object[][] full = {{"1", FULL}, {"12!", FULL}, {"a", FULL}, {"a!", FULL}, {"!", -10}, {"", -10}, {"-", -11}, {"-0", -11},
            {"2147483648", -19}, {"\\a:i.!", -15}, {"(((((1", FULL}, {"0!", FULL}};
        for (Object[] row : full) {
            check.due("read " + row[0], Check.read(core, (String) row[0]), (Integer) row[1]);
            check.due("TERMS", core.count(0), 400);
        }
    }

    private static void readFullOfTypes(Check check) {
        CoreTerms core = new CoreTerms();
        for (int from = 0; core.count(1) < 38; from++) {
            for (int to = 0; to < 6 && core.count(1) < 38; to++) {
                core.arrow(from, to);
            }
        }
        // three that are not there: FROM is ((i>i)>i), (i>((i>i)>i)) and both of these
        check.due("is there", core.side(7, 0) * 10 + core.side(7, 1), 10);
        check.due("an ARROW that is there", Check.read(core, "\\a:(i>i).1"), 1);
        String one = "(i>((i>i)>i))", two = "((i>((i>i)>i))>i)", three = "(((i>((i>i)>i))>i)>i)";
        check.due("three more", Check.read(core, "\\a:" + three + "!"), FULL);
        check.due("none of them stays", core.count(1), 38);
        check.due("ahead of the third", Check.read(core, "\\a:(" + two + "!"), -10 - 4 - two.length());
        check.due("none of them stays", core.count(1), 38);
        check.due("one more", Check.read(core, "\\a:" + one + ".1"), 3);
        check.due("is the 39th", core.count(1), 39);
        check.due("two more, of three functions", Check.read(core, "\\a:" + two + ".\\a:" + three + ".1"), FULL);
        check.due("TYPES", core.count(1), 39);
        check.due("TERMS", core.count(0), 4);
        check.due("the 40th", Check.read(core, "\\a:" + two + ".\\a:" + two + ".1"), 6);
        check.due("TYPES", core.count(1), 40);
        check.due("FULL of TYPES", Check.read(core, "\\a:" + three), FULL);
        check.due("ahead of its end", Check.read(core, "\\a:" + three.substring(0, 20)), -10 - 23);
        check.due("one that is there", Check.read(core, "\\a:" + one + "!"), -10 - 3 - one.length());
        CoreTerms other = new CoreTerms();
        String longest = times("(", 9) + "i" + times(">i)", 9);
        check.due("LENGTH 37", Check.read(other, "\\a:" + longest + ".1"), 1);
        check.due("LENGTH 41", Check.read(other, "\\a:(" + longest + ">i)!"), FULL);
        check.due("LENGTH 41, ahead of its end", Check.read(other, "\\a:(" + longest + ">i!"), -10 - 43);
        check.due("TYPES", other.count(1), 10);
        check.due("NONE is no TYPE", other.function(0, NONE, 0), BAD);
    }

    private static String times(String text, int n) {
        return text.repeat(n);
    }
}
