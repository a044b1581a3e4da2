/** The boundary cases of promises 22 to 26, sentence by sentence: print, at, feed, copy, read. */
public final class BoundsOfTextsTest {
    private static final int BAD = CoreTerms.BAD, FULL = CoreTerms.FULL;
    private static final int MIN = Integer.MIN_VALUE, MAX = Integer.MAX_VALUE;
    private static final int RICH = Made.rich().count(0);
    private static final String LETTERS = "abcdefghijklmnopqrstuvwxyz", DIGITS = "0123456789", TYPES = "i(";
    private static final String TERMS = "-" + DIGITS + LETTERS + "\\([{";

    public static void main(String[] args) {
        Check check = new Check("bounds of texts");
        printBounds(check);
        printNumbers(check);
        printBad(check);
        printFull(check);
        atBounds(check);
        atBad(check);
        feedBounds(check);
        feedEachByte(check);
        feedBad(check);
        feedFull(check);
        copyBounds(check);
        copyFull(check);
        readEachByteAtEachPlace(check);
        readEndsTooEarly(check);
        readNumbers(check);
        readLongest(check);
        readAnewAndOnce(check);
        readFullOfTerms(check);
        readFullOfTypes(check);
        readFullOfLength(check);
        readFullOfDepth(check);
        readEmptiesTheTape(check);
        readChangesNothing(check);
        check.end();
    }

    private static CoreTerms ofWidth(int width) {
        CoreTerms core = Made.rich();
        Made.ofWidth(core, width);
        return core;
    }

    private static int last(CoreTerms core) {
        return core.count(0) - 1;
    }

    private static void printBounds(Check check) {
        check.sentence(22, "THE PRINT becomes the text of a TERM: its length");
        for (int width : new int[] {1, 2, 599, 600, 601, 3999, 4000}) {
            CoreTerms core = ofWidth(width);
            check.due("its length", core.print(last(core)), width);
            check.due("THE PRINT", core.count(3), width);
            check.due("its first byte", core.at(0), width < 16 ? '1' : '(');
            check.due("its last byte", core.at(width - 1), width < 16 ? '0' + width : ')');
        }
        CoreTerms core = ofWidth(4000);
        core.print(last(core));
        core.print(0);
        check.due("a shorter one", Check.printed(core), "1");
        core.print(last(core));
        check.due("a longer one", core.count(3), 4000);
        CoreTerms full = Made.fullOfTerms(0);
        check.due("the last TERM", full.print(399), 1);
    }

    private static void printNumbers(Check check) {
        check.sentence(22, "NUMBER: its digits, - ahead of one below 0 (never -0, no 0 ahead)");
        CoreTerms core = new CoreTerms();
        int power = 1;
        for (int digits = 1; digits <= 10; digits++) {
            for (int n : new int[] {power, power - 1, -power, 1 - power}) {
                check.due("of " + n, Check.text(core, core.number(n)), Integer.toString(n));
            }
            power *= 10;
        }
        for (int n : new int[] {0, MAX, MAX - 1, MIN, MIN + 1}) {
            check.due("of " + n, Check.text(core, core.number(n)), Integer.toString(n));
        }
    }

    private static void printBad(Check check) {
        check.sentence(22, "BAD");
        for (int wrong : Made.notBelow(RICH)) {
            check.refused("print(" + wrong + ")", Made::rich, core -> core.print(wrong), BAD);
        }
        check.due("one more", Made.fullOfTerms(0).print(400), BAD);
    }

    private static void printFull(Check check) {
        check.sentence(22, "FULL: it has no room (THE PRINT stays)");
        for (int width : new int[] {4001, 4002, 4500}) {
            check.refused("a text of " + width, () -> ofWidth(width), core -> core.print(last(core)), FULL);
        }
        CoreTerms core = ofWidth(4000);
        int of4000 = last(core);
        core.print(of4000);
        int more = core.function(0, 0, of4000);
        check.due("behind a text of 4000", core.print(more), FULL);
        check.due("THE PRINT", core.count(3), 4000);
        check.due("its first byte", core.at(0), '(');
        check.due("the text of 4000 again", core.print(of4000), 4000);
        // of each KIND one that has 4000 bytes, and one byte more in its last PART
        for (int kind = 2; kind <= 6; kind++) {
            CoreTerms each = new CoreTerms();
            int a = each.name(25);
            int rest = 4000 - new int[] {0, 0, 5, 4, 5, 4, 6}[kind];
            check.due("KIND " + kind + ", 4000", each.print(around(each, kind, a, Made.ofWidth(each, rest))), 4000);
            check.due("KIND " + kind + ", 4001", each.print(around(each, kind, a, Made.ofWidth(each, rest + 1))), FULL);
        }
    }

    private static int around(CoreTerms core, int kind, int a, int t) {
        switch (kind) {
            case 2: return core.function(0, 0, t);
            case 4: return core.let(0, a, t);
            default: return core.join(kind, a, kind == 6 ? a : t, t);
        }
    }

    private static void atBounds(Check check) {
        check.sentence(23, "Byte i of THE PRINT");
        CoreTerms core = new CoreTerms();
        String text = "{a?\\z:((i>i)>i).[b=-2147483648](c d):(0+9)}";
        core.print(Check.read(core, text));
        for (int i = 0; i < text.length(); i++) {
            check.due("at(" + i + ")", core.at(i), text.charAt(i));
        }
        check.due("behind the last", core.at(text.length()), BAD);
    }

    private static void atBad(Check check) {
        check.sentence(23, "BAD");
        for (int wrong : Made.notBelow(6)) {
            check.refused("at(" + wrong + ")", Made::rich, core -> core.at(wrong), BAD);
        }
        check.due("the last", Made.rich().at(5), 'd');
        for (int i : new int[] {-1, 0, 1}) {
            check.due("of nothing: at(" + i + ")", new CoreTerms().at(i), BAD);
        }
        CoreTerms core = ofWidth(4000);
        core.print(last(core));
        check.due("at(3999)", core.at(3999), ')');
        check.due("at(4000)", core.at(4000), BAD);
        core.print(0);
        check.due("at(1), behind a shorter text", core.at(1), BAD);
        check.due("at(3999), behind a shorter text", core.at(3999), BAD);
    }

    private static void feedBounds(Check check) {
        check.sentence(24, "The n lowest bytes of w, the highest of them first, come behind THE TAPE: how many it has");
        long w = 0x282861206229_2B63L;
        String[] read = {"c", "<-10>", "<-10>", "<-11>", "<-10>", "<-11>", "<-15>", "<-18>"};
        for (int n = 1; n <= 8; n++) {
            CoreTerms core = new CoreTerms();
            check.due("feed(w, " + n + ")", core.feed(w, n), n);
            check.due("THE TAPE", core.count(2), n);
            check.due("read", Check.text(core, core.read()), read[n - 1]);
        }
        CoreTerms core = new CoreTerms();
        check.due("eight", core.feed(w, 8), 8);
        check.due("one more", core.feed(0xFFFFFFFFFFFFFF00L | ')', 1), 9);
        check.due("in their order", Check.text(core, core.read()), "((a b)+c)");
    }

    private static void feedEachByte(Check check) {
        check.sentence(24, "a byte, whatever is above it");
        for (int c = 0; c < 256; c++) {
            for (long above : new long[] {0L, -256L, 0x6161616161616100L}) {
                CoreTerms core = new CoreTerms();
                core.feed(above | c, 1);
                int t = core.read();
                boolean letter = c >= 'a' && c <= 'z', digit = c >= '0' && c <= '9', opens = c > 0 && "-\\([{".indexOf(c) >= 0;
                check.due("the byte " + c, t, letter || digit ? 0 : opens ? -11 : -10);
                check.due("its x", core.told(0, 4), letter ? c - 'a' : digit ? -2 : BAD);
                check.due("its n", core.told(0, 3), digit ? c - '0' : letter ? 0 : BAD);
            }
        }
    }

    private static void feedBad(Check check) {
        check.sentence(24, "BAD: n is not 1 .. 8");
        for (int wrong : new int[] {0, -1, -2, -8, 9, 10, 16, 257, 264, MIN, MAX}) {
            check.refused("feed(97, " + wrong + ")", Made::rich, core -> core.feed(97L, wrong), BAD);
            check.refused("with no room: feed(97, " + wrong + ")", () -> tapeOf(600), core -> core.feed(97L, wrong), BAD);
        }
    }

    /** A TAPE of so many bytes, which is the text of one TERM. */
    private static CoreTerms tapeOf(int length) {
        CoreTerms core = new CoreTerms();
        core.print(Made.ofWidth(core, length));
        core.copy();
        return core;
    }

    private static void feedFull(Check check) {
        check.sentence(24, "FULL: THE TAPE has 600 bytes");
        for (int n = 1; n <= 8; n++) {
            int bytes = n;
            CoreTerms core = tapeOf(600 - n);
            check.due("just room for " + n, core.feed(0L, n), 600);
            check.due("THE TAPE", core.count(2), 600);
            check.due("one more", core.feed(0L, 1), FULL);
            check.due("eight more", core.feed(0L, 8), FULL);
            check.due("THE TAPE stays", core.count(2), 600);
            check.refused("room for one less than " + n, () -> tapeOf(601 - bytes), full -> full.feed(0x6161616161616161L, bytes), FULL);
        }
        CoreTerms core = tapeOf(600);
        check.due("THE TAPE of 600 is read", core.read() >= 0 ? 1 : 0, 1);
        check.due("there is room behind that", core.feed(97L, 8), 8);
        core = tapeOf(600);
        core.feed(97L, 1);
        check.due("what was refused is not read", core.read() >= 0 ? 1 : 0, 1);
    }

    private static void copyBounds(Check check) {
        check.sentence(25, "THE TAPE becomes THE PRINT: its length");
        CoreTerms core = new CoreTerms();
        check.due("nothing", core.copy(), 0);
        core.feed(97L, 8);
        check.due("nothing, instead of eight", core.copy(), 0);
        check.due("THE TAPE", core.count(2), 0);
        for (int length : new int[] {1, 2, 599, 600}) {
            CoreTerms each = ofWidth(length);
            int t = last(each);
            each.print(t);
            check.due("a text of " + length, each.copy(), length);
            check.due("THE TAPE", each.count(2), length);
            check.due("THE PRINT stays", each.count(3), length);
            each.clear();
            each.print(each.read());
            check.due("the same text", each.count(3), length);
        }
        CoreTerms more = tapeOf(600);
        more.print(0);
        check.due("a shorter one, instead of 600", more.copy(), more.count(3));
        check.due("THE TAPE", more.count(2), more.count(3));
        check.due("there is room", more.feed(0L, 8), more.count(3) + 8);
    }

    private static CoreTerms printOf(int length) {
        CoreTerms core = ofWidth(length);
        core.print(last(core));
        return core;
    }

    private static void copyFull(Check check) {
        check.sentence(25, "FULL: that is longer than 600");
        for (int length : new int[] {601, 602, 1200, 3999, 4000}) {
            check.refused("a text of " + length, () -> printOf(length), CoreTerms::copy, FULL);
        }
    }

    /** What is ahead, the bytes that can stand there, and whether what is ahead is a TERM already. */
    private static void readEachByteAtEachPlace(Check check) {
        check.sentence(26, "the first byte of THE TAPE that cannot stand there, by what is ahead of it, is told");
        String[][] open = {{"", TERMS}, {"\\", LETTERS}, {"\\a", ":"}, {"\\a:", TYPES}, {"\\a:i", "."}, {"\\a:i.", TERMS}, {"\\a:(", TYPES},
            {"\\a:(i", ">"}, {"\\a:(i>", TYPES}, {"\\a:(i>i", ")"}, {"\\a:(i>i)", "."}, {"\\a:((", TYPES}, {"\\a:((i>i)", ">"},
            {"\\a:((i>i)>", TYPES}, {"\\a:((i>i)>i", ")"}, {"\\a:(i>(i>i)", ")"}, {"(", TERMS}, {"(a", " +"}, {"(a ", TERMS}, {"(a+", TERMS},
            {"(a b", ")"}, {"(a+b", ")"}, {"((a b)", " +"}, {"[", LETTERS}, {"[a", "="}, {"[a=", TERMS}, {"[a=b", "]"}, {"[a=b]", TERMS},
            {"{", TERMS}, {"{a", "?"}, {"{a?", TERMS}, {"{a?b", ":"}, {"{a?b:", TERMS}, {"{a?b:c", "}"}, {"-", "123456789"}, {"(-", "123456789"},
            {"(0", " +"}, {"(1", DIGITS + " +"}, {"(-1", DIGITS + " +"}, {"(1 0", ")"}, {"(1 2", DIGITS + ")"}, {"[a=0", "]"}, {"[a=1", DIGITS + "]"},
            {"{0", "?"}, {"{1", DIGITS + "?"}, {"{1?0", ":"}, {"{1?1", DIGITS + ":"}, {"{1?1:0", "}"}, {"{1?1:1", DIGITS + "}"},
            {"(214748364", "01234567 +"}, {"(-214748364", "012345678 +"}, {"(214748365", " +"}, {"(-214748365", " +"}, {"(2147483647", " +"},
            {"(-2147483648", " +"}, {"(1000000000", " +"}, {"(999999999", " +"}, {"\\a:i.(\\b:(i>i).[c=1]{2?3:4}", " +"}};
        for (String[] row : open) {
            place(check, row[0], row[1], false);
        }
        String[][] whole = {{"a", ""}, {"0", ""}, {"7", DIGITS}, {"-7", DIGITS}, {"(a b)", ""}, {"(a+b)", ""}, {"\\a:i.b", ""}, {"[a=b]c", ""},
            {"{a?b:c}", ""}, {"\\a:i.1", DIGITS}, {"[a=b]0", ""}, {"214748364", "01234567"}, {"-214748364", "012345678"}, {"2147483647", ""},
            {"-2147483648", ""}, {"1234567890", ""}, {"999999999", ""}};
        for (String[] row : whole) {
            place(check, row[0], row[1], true);
        }
    }

    private static void place(Check check, String ahead, String allowed, boolean whole) {
        CoreTerms core = new CoreTerms();
        int toldPlace = -10 - ahead.length(), end = Check.read(core, ahead);
        check.due(ahead + " and the end", whole && end >= 0 ? 0 : end, whole ? 0 : toldPlace);
        for (char c = 0; c < 256; c++) {
            core = new CoreTerms();
            int answer = Check.read(core, ahead + c), then = Check.read(core, ahead + c + "!");
            if (allowed.indexOf(c) < 0) {
                check.due(ahead + " and the byte " + (int) c, answer, toldPlace);
                check.due("with another behind it", then, toldPlace);
            } else {
                check.due(ahead + c + " can stand there", answer >= 0 || answer == toldPlace - 1 ? 1 : 0, 1);
                check.due("the byte behind it is told", then, toldPlace - 1);
            }
        }
    }

    private static void readEndsTooEarly(Check check) {
        check.sentence(26, "its length, if it ends too early");
        String[] texts = {"\\a:((i>i)>(i>(i>i))).{(a b)?[c=d](e+f):\\z:i.y}", "[a={b?c:d}](e (f+g))", "{\\a:i.b?(c d):[e=f]g}", "(-1+(a -2))"};
        for (String text : texts) {
            for (int n = 0; n < text.length(); n++) {
                CoreTerms core = new CoreTerms();
                check.due("the first " + n + " of " + text, Check.read(core, text.substring(0, n)), -10 - n);
                check.due("TERMS", core.count(0), 0);
                check.due("TYPES", core.count(1), 1);
                check.due("THE TAPE", core.count(2), 0);
            }
            CoreTerms whole = new CoreTerms();
            check.due("the whole of " + text, Check.text(whole, Check.read(whole, text)), text);
        }
    }

    private static void readNumbers(Check check) {
        check.sentence(26, "of a NUMBER that is no int the first digit with which it is none");
        Object[][] rows = {{"2147483648", 9}, {"2147483649", 9}, {"-2147483649", 10}, {"2147483650", 9}, {"-2147483650", 10}, {"3000000000", 9},
            {"9999999999", 9}, {"-9999999999", 10}, {"10000000000", 10}, {"-10000000000", 11}, {"21474836470", 10}, {"-21474836480", 11},
            {"99999999999999999999", 9}, {"4294967296", 9}, {"4294967297", 9}, {"18446744073709551616", 10}, {"(2147483648 1)", 10},
            {"(1 2147483648)", 12}, {"[a=-2147483649]1", 13}, {"2147483648!", 9}, {"2".repeat(600), 9}, {"1".repeat(600), 10}};
        for (Object[] row : rows) {
            CoreTerms core = new CoreTerms();
            check.due("read " + row[0], Check.read(core, (String) row[0]), -10 - (Integer) row[1]);
            check.due("TERMS", core.count(0), 0);
        }
        check.sentence(26, "a NUMBER that is an int; never -0, no 0 ahead");
        for (int n : new int[] {0, 1, -1, 9, 10, -10, MAX, MIN, MAX - 1, MIN + 1, 1000000000, -1000000000, 999999999}) {
            CoreTerms core = new CoreTerms();
            check.due("read " + n, core.told(Check.read(core, Integer.toString(n)), 3), n);
        }
        String[] none = {"-0", "00", "01", "007", "-00", "-01", "--1", "+1"};
        int[] places = {1, 1, 1, 1, 1, 1, 1, 0};
        for (int i = 0; i < none.length; i++) {
            check.due("read " + none[i], Check.read(new CoreTerms(), none[i]), -10 - places[i]);
        }
    }

    private static void readLongest(Check check) {
        check.sentence(26, "a TAPE of 600 bytes");
        CoreTerms core = tapeOf(600);
        core.clear();
        check.due("a TERM of as many bytes", core.print(core.read()), 600);
        core = tapeOf(599);
        core.feed('!', 1);
        check.due("the last byte cannot stand there", core.read(), -609);
        core = new CoreTerms();
        check.due("600 bytes", Check.feed(core, "(((10+20)+(30+40))+".repeat(32).substring(0, 600)), 600);
        check.due("they end too early", core.read(), -610);
        check.due("nothing of them stays", core.count(0), 0);
    }

    private static void readAnewAndOnce(Check check) {
        check.sentence(26, "TERMS, ARROWS come as they are finished (TERMS all anew)");
        CoreTerms core = new CoreTerms();
        check.due("first", Check.read(core, "\\a:(i>i).(a+a)"), 3);
        check.due("again: TERMS anew", Check.read(core, "\\a:(i>i).(a+a)"), 7);
        check.due("the ARROW is the same", core.told(7, 5), core.told(3, 5));
        check.due("TYPES", core.count(1), 2);
        check.due("the NAMES are two", core.told(6, 6) * 10 + core.told(6, 7), 45);
        CoreTerms each = new CoreTerms();
        Check.read(each, "{[a=-7]b?(c+\\d:(i>i).0):(e f)}");
        long[][] due = {{0, 1, 1, -7, -2, -2, -2, -2, -2}, {1, 1, 1, 0, 1, -2, -2, -2, -2}, {4, 3, 2, 0, 0, -2, 0, 1, -2},
            {1, 1, 1, 0, 2, -2, -2, -2, -2}, {0, 1, 1, 0, -2, -2, -2, -2, -2}, {2, 2, 2, 0, 3, 1, 4, -2, -2}, {5, 4, 3, 0, -2, -2, 3, 5, -2},
            {1, 1, 1, 0, 4, -2, -2, -2, -2}, {1, 1, 1, 0, 5, -2, -2, -2, -2}, {3, 3, 2, 0, -2, -2, 7, 8, -2}, {6, 11, 4, 0, -2, -2, 2, 6, 9}};
        for (int t = 0; t < due.length; t++) {
            for (int what = 0; what < 9; what++) {
                check.due("told(" + t + ", " + what + ")", each.told(t, what), due[t][what]);
            }
        }
        check.due("TERMS", each.count(0), due.length);
    }

    /** The first byte behind which so many TERMS are finished is at each place; FULL is found there, whatever is behind it. */
    private static void readFullOfTerms(Check check) {
        check.sentence(26, "FULL is found at once, ahead of what is behind: TERMS");
        // the bytes with which the first, second .. TERM is finished
        Object[][] rows = {{"(a b)", new int[] {1, 3, 4}}, {"(a+b)", new int[] {1, 3, 4}}, {"\\a:i.b", new int[] {5, 5}},
            {"[a=b]c", new int[] {3, 5, 5}}, {"{a?b:c}", new int[] {1, 3, 5, 6}}, {"((a b)+\\c:i.d)", new int[] {2, 4, 5, 12, 12, 13}},
            {"{[a=0]b?(c 0):d}", new int[] {4, 6, 6, 9, 11, 12, 14, 15}}};
        for (Object[] row : rows) {
            String text = (String) row[0];
            int[] finished = (int[]) row[1];
            for (int room = 0; room < finished.length; room++) {
                for (int n = 0; n <= text.length(); n++) {
                    CoreTerms core = Made.fullOfTerms(room);
                    int due = n > finished[room] ? FULL : -10 - n;
                    check.due("room for " + room + ", the first " + n + " of " + text, Check.read(core, text.substring(0, n)), due);
                    check.due("and a wrong byte", Check.read(core, text.substring(0, n) + "!"), due);
                    check.due("TERMS", core.count(0), 400 - room);
                    check.due("THE TAPE", core.count(2), 0);
                }
            }
            CoreTerms core = Made.fullOfTerms(finished.length);
            check.due("just room for " + text, Check.read(core, text), 399);
        }
        CoreTerms full = Made.fullOfTerms(0);
        check.due("a NUMBER behind its last digit", Check.read(full, "123"), FULL);
        check.due("ahead of the byte behind it", Check.read(full, "123!"), FULL);
        check.due("but not ahead of a digit with which it is none", Check.read(full, "2147483648"), -19);
        check.due("nor of its first one", Check.read(full, "-"), -11);
        check.due("nor of what is no TERM", Check.read(full, "!"), -10);
    }

    private static void readFullOfTypes(Check check) {
        check.sentence(26, "FULL is found at once, ahead of what is behind: TYPES");
        // (i>i), ((i>i)>i) are there; those around them are not: they are finished with the last two bytes
        String type = "(i>(i>((i>i)>i)))", text = "\\a:" + type + ".a";
        for (int room = 0; room <= 2; room++) {
            for (int n = 0; n <= text.length(); n++) {
                int finished = 3 + type.length() - 2 + room;
                boolean isFull = room < 2 && n > finished, isWhole = room == 2 && n == text.length();
                String part = text.substring(0, n);
                CoreTerms core = Made.fullOfTypes(room);
                check.due("room for " + room + ", the first " + n + " of " + text, Check.read(core, part), isFull ? FULL : isWhole ? 1 : -10 - n);
                check.due("TYPES", core.count(1), isWhole ? 40 : 40 - room);
                check.due("TERMS", core.count(0), isWhole ? 2 : 0);
                core = Made.fullOfTypes(room);
                check.due("and a wrong byte", Check.read(core, part + "!"), isFull ? FULL : -10 - n);
                check.due("TYPES", core.count(1), 40 - room);
            }
        }
        CoreTerms core = Made.fullOfTypes(0);
        check.due("one that is there", Check.read(core, "\\a:((i>i)>i).a"), 1);
    }

    private static void readFullOfLength(Check check) {
        check.sentence(26, "FULL is found at once, ahead of what is behind: LENGTH");
        String of37 = "(".repeat(9) + "i" + ">i)".repeat(9), of17 = "(".repeat(4) + "i" + ">i)".repeat(4), of21 = "(" + of17 + ">i)";
        for (String type : new String[] {of37, "(" + of17 + ">" + of17 + ")"}) {
            CoreTerms core = new CoreTerms();
            check.due("LENGTH 37", type.length(), 37);
            check.due("is read", Check.read(core, "\\a:" + type + ".a"), 1);
        }
        for (String type : new String[] {"(" + of37 + ">i)", "(i>" + of37 + ")", "(" + of17 + ">" + of21 + ")", "(" + of21 + ">" + of17 + ")"}) {
            CoreTerms core = new CoreTerms();
            check.due("LENGTH 41", type.length(), 41);
            check.due("is FULL with its last byte", Check.read(core, "\\a:" + type), FULL);
            check.due("ahead of what is behind", Check.read(core, "\\a:" + type + "!"), FULL);
            check.due("not ahead of it", Check.read(core, "\\a:" + type.substring(0, 40)), -53);
            check.due("nor of another byte instead of it", Check.read(core, "\\a:" + type.substring(0, 40) + "!"), -53);
            check.due("no TYPES stay", core.count(1), 1);
        }
    }

    private static void readFullOfDepth(Check check) {
        check.sentence(26, "also where the 41st TERM, TYPE within one another would begin");
        String[] parts = {"(", "(1 ", "(1+", "[a=", "[a=1]", "{", "{1?", "{1?2:", "\\a:i."};
        for (String part : parts) {
            CoreTerms core = new CoreTerms();
            String ahead = part.repeat(39);
            check.due("the 40th TERM, behind " + part, Check.read(core, ahead + "a!"), -10 - ahead.length() - 1);
            check.due("the 41st, behind " + part, Check.read(core, ahead + "(a!"), FULL);
            check.due("the 41st opens one", Check.read(core, ahead + "((!"), FULL);
            check.due("where it would begin is another byte", Check.read(core, ahead + "(!"), -10 - ahead.length() - 1);
            check.due("where it would begin is the end", Check.read(core, ahead + "("), -10 - ahead.length() - 1);
            check.due("a TYPE is the 40th", Check.read(core, part.repeat(38) + "\\a:i!"), -10 - 38 * part.length() - 4);
            check.due("a TYPE is the 41st", Check.read(core, part.repeat(38) + "\\a:(i!"), FULL);
            check.due("a TYPE within the 40th TERM", Check.read(core, ahead + "\\a:i"), FULL);
            check.due("nothing stays", core.count(0) * 100 + core.count(1), 1);
        }
        for (String part : new String[] {"(", "(i>", "((i>i)>"}) {
            CoreTerms core = new CoreTerms();
            String ahead = "\\a:" + part.repeat(37);
            check.due("the 39th TYPE in a FUNCTION, behind " + part, Check.read(core, ahead + "(i!"), -10 - ahead.length() - 2);
            check.due("as TO", Check.read(core, ahead + "(i>i!"), -10 - ahead.length() - 4);
            check.due("the 40th, behind " + part, Check.read(core, ahead + "((i!"), FULL);
            check.due("as TO", Check.read(core, ahead + "(i>(i!"), FULL);
            check.due("another byte where it would begin", Check.read(core, ahead + "((!"), -10 - ahead.length() - 2);
            check.due("the end where it would begin", Check.read(core, ahead + "(("), -10 - ahead.length() - 2);
        }
    }

    private static void readEmptiesTheTape(Check check) {
        check.sentence(26, "THE TAPE is empty behind it in any case");
        Object[][] rows = {{"(a+b)", 2}, {"(a+b", -14}, {"(a+b]", -14}, {"!", -10}, {"a!", -11}, {"(".repeat(40) + "a", FULL}, {"", -10}};
        for (Object[] row : rows) {
            CoreTerms core = new CoreTerms();
            Check.feed(core, (String) row[0]);
            check.due("read " + row[0], core.read(), (Integer) row[1]);
            check.due("THE TAPE", core.count(2), 0);
            check.due("read again", core.read(), -10);
            check.due("it begins anew", Check.text(core, Check.read(core, "(c d)")), "(c d)");
        }
        CoreTerms full = Made.fullOfTerms(0);
        check.due("FULL of TERMS", Check.read(full, "a"), FULL);
        check.due("THE TAPE", full.count(2), 0);
    }

    /** All but THE TAPE: that goes. */
    private static void readChangesNothing(Check check) {
        check.sentence(26, "Answers below 0: then nothing changes");
        String[] texts = {"", "!", "[a=\\b:(i>(i>i)).(1 2)]{3?4", "[a=\\b:(i>(i>i)).(1 2)]{3?4!", "[a=\\b:(i>(i>i)).1]" + "(".repeat(40) + "1", "((1+2)+3))"};
        for (String text : texts) {
            check.refused("read " + text, BoundsOfTextsTest::withEmptyTape, core -> Check.read(core, text) < 0 ? 1 : 0, 1);
        }
    }

    private static CoreTerms withEmptyTape() {
        CoreTerms core = Made.rich();
        core.read();
        return core;
    }
}
