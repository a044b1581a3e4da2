/** A small typed core: terms, their types, texts, steps; see README.md. */
public final class CoreTerms {
    public static final int BAD = -1, NONE = -2, FULL = -3;

    private static final int INT = 0;
    private static final int NUMBER = 0, NAME = 1, FUNCTION = 2, CALL = 3, LET = 4, SUM = 5, CHOICE = 6;
    private static final int LETTERS = 26;
    private static final int MOST_TYPES = 40, MOST_LENGTH = 40;
    private static final int MOST_TERMS = 400, MOST_SIZE = 1000, MOST_DEPTH = 40;
    private static final int MOST_STEPS = 50;
    private static final int TAPE_ROOM = 600, PRINT_ROOM = 4000;
    private static final int FIRST_PLACE = -10;

    private final Types types;
    private final Terms terms;
    private final Typist typist;
    private final Comparer comparer;
    private final Putter putter;
    private final Stepper stepper;
    private final Dropper dropper;
    private final Printer printer;
    private final Reader reader;
    private int stepsRun;

    public CoreTerms() {
        types = new Types();
        terms = new Terms(types);
        typist = new Typist(types, terms);
        comparer = new Comparer(terms);
        putter = new Putter(terms);
        stepper = new Stepper(terms, putter);
        dropper = new Dropper(terms);
        printer = new Printer(types, terms);
        reader = new Reader(types, terms);
        stepsRun = 0;
    }

    public int arrow(int from, int to) {
        if (!types.has(from) || !types.has(to)) {
            return BAD;
        }
        return types.arrowOf(from, to);
    }

    public int side(int type, int which) {
        if (!types.has(type) || which < 0 || which > 1) {
            return BAD;
        }
        return which == 0 ? types.fromOf(type) : types.toOf(type);
    }

    public int declare(int x, int type) {
        if (!isLetter(x) || (type != NONE && !types.has(type))) {
            return BAD;
        }
        typist.setDeclared(x, type);
        return 1;
    }

    public int number(int n) {
        return terms.newNumber(n);
    }

    public int name(int x) {
        return isLetter(x) ? terms.newName(x) : BAD;
    }

    public int function(int x, int type, int b) {
        if (!isLetter(x) || !types.has(type) || !terms.has(b)) {
            return BAD;
        }
        return terms.newFunction(x, type, b);
    }

    public int let(int x, int e, int b) {
        if (!isLetter(x) || !terms.has(e) || !terms.has(b)) {
            return BAD;
        }
        return terms.newLet(x, e, b);
    }

    public int join(int kind, int a, int b, int c) {
        if ((kind != CALL && kind != SUM && kind != CHOICE) || !terms.has(a) || !terms.has(b)) {
            return BAD;
        }
        if (kind != CHOICE) {
            return terms.newJoined(kind, a, b, NONE);
        }
        return terms.has(c) ? terms.newJoined(kind, a, b, c) : BAD;
    }

    public long told(int t, int what) {
        if (!terms.has(t)) {
            return BAD;
        }
        switch (what) {
            case 0: return terms.kindOf(t);
            case 1: return terms.sizeOf(t);
            case 2: return terms.depthOf(t);
            case 3: return terms.numberOf(t);
            case 4: return terms.letterOf(t);
            case 5: return terms.typeOf(t);
            case 6: return terms.firstOf(t);
            case 7: return terms.secondOf(t);
            case 8: return terms.thirdOf(t);
            default: return BAD;
        }
    }

    public int free(int t) {
        return terms.has(t) ? terms.freeLettersOf(t) : BAD;
    }

    public int uses(int t, int x) {
        return terms.has(t) && isLetter(x) ? terms.usesOf(t, x) : BAD;
    }

    public int type(int t) {
        return terms.has(t) ? typist.wholeTypeOf(t) : BAD;
    }

    public int fault(int what) {
        switch (what) {
            case 0: return typist.latestFault();
            case 1: return typist.latestFaultAt();
            default: return BAD;
        }
    }

    public int alike(int t, int u) {
        if (!terms.has(t) || !terms.has(u)) {
            return BAD;
        }
        return comparer.areAlike(t, u) ? 1 : 0;
    }

    public int least(int t) {
        if (!terms.has(t)) {
            return BAD;
        }
        for (int u = 0; u < t; u++) {
            if (comparer.areAlike(t, u)) {
                return u;
            }
        }
        return t;
    }

    public int put(int t, int x, int u) {
        if (!terms.has(t) || !isLetter(x) || !terms.has(u)) {
            return BAD;
        }
        int mark = terms.total();
        return keptOrUndone(putter.into(t, x, u), mark);
    }

    public int step(int t) {
        if (!terms.has(t)) {
            return BAD;
        }
        int mark = terms.total();
        return keptOrUndone(stepper.stepOf(t), mark);
    }

    public int run(int t, int n) {
        if (!terms.has(t) || n < 0 || n > MOST_STEPS) {
            return BAD;
        }
        int mark = terms.total();
        int reached = t;
        int made = 0;
        for (int i = 0; i < n; i++) {
            int next = stepper.stepOf(reached);
            if (next == FULL) {
                return keptOrUndone(FULL, mark);
            }
            if (next < 0) {
                break;
            }
            reached = next;
            made++;
        }
        stepsRun = made;
        return reached;
    }

    public int ran() {
        return stepsRun;
    }

    public int drop(int t) {
        if (!terms.has(t)) {
            return BAD;
        }
        int mark = terms.total();
        return keptOrUndone(dropper.withoutLets(t), mark);
    }

    public int print(int t) {
        return terms.has(t) ? printer.show(t) : BAD;
    }

    public int at(int i) {
        return printer.byteAt(i);
    }

    public int feed(long w, int n) {
        return reader.addBytes(w, n);
    }

    public int copy() {
        return reader.takeFrom(printer);
    }

    public int read() {
        return reader.wholeTape();
    }

    public int count(int what) {
        switch (what) {
            case 0: return terms.total();
            case 1: return types.total();
            case 2: return reader.tapeLength();
            case 3: return printer.printLength();
            default: return BAD;
        }
    }

    public int clear() {
        int gone = terms.total();
        terms.cutTo(0);
        return gone;
    }

    private int keptOrUndone(int answer, int mark) {
        if (answer < 0) {
            terms.cutTo(mark);
        }
        return answer;
    }

    private static boolean isLetter(int x) {
        return x >= 0 && x < LETTERS;
    }

    /** The types; each arrow stands here once, so equal types have equal numbers. */
    private static final class Types {
        private final int[] from = new int[MOST_TYPES];
        private final int[] to = new int[MOST_TYPES];
        private final int[] length = new int[MOST_TYPES];
        private int total;

        Types() {
            from[INT] = NONE;
            to[INT] = NONE;
            length[INT] = 1;
            total = 1;
        }

        int total() {
            return total;
        }

        boolean has(int type) {
            return type >= 0 && type < total && type < MOST_TYPES;
        }

        int fromOf(int type) {
            return has(type) ? from[type] : NONE;
        }

        int toOf(int type) {
            return has(type) ? to[type] : NONE;
        }

        int lengthOf(int type) {
            return has(type) ? length[type] : 0;
        }

        int arrowOf(int fromType, int toType) {
            for (int i = 0; i < total && i < MOST_TYPES; i++) {
                if (from[i] == fromType && to[i] == toType) {
                    return i;
                }
            }
            int newLength = lengthOf(fromType) + lengthOf(toType) + 3;
            if (total >= MOST_TYPES || newLength > MOST_LENGTH) {
                return FULL;
            }
            from[total] = fromType;
            to[total] = toType;
            length[total] = newLength;
            total++;
            return total - 1;
        }

        void cutTo(int mark) {
            if (mark >= 1 && mark < total) {
                total = mark;
            }
        }
    }

    /** The terms, a row for each of what is told of them; a term's parts have lower numbers than it. */
    private static final class Terms {
        private final Types types;
        private final int[] kind = new int[MOST_TERMS];
        private final int[] number = new int[MOST_TERMS];
        private final int[] letter = new int[MOST_TERMS];
        private final int[] type = new int[MOST_TERMS];
        private final int[] first = new int[MOST_TERMS];
        private final int[] second = new int[MOST_TERMS];
        private final int[] third = new int[MOST_TERMS];
        private final int[] size = new int[MOST_TERMS];
        private final int[] depth = new int[MOST_TERMS];
        private final int[] freeLetters = new int[MOST_TERMS];
        private final int[] width = new int[MOST_TERMS];
        private int total;

        Terms(Types types) {
            this.types = types;
            total = 0;
        }

        int total() {
            return total;
        }

        boolean has(int t) {
            return t >= 0 && t < total && t < MOST_TERMS;
        }

        int kindOf(int t) {
            return has(t) ? kind[t] : NONE;
        }

        int numberOf(int t) {
            return has(t) ? number[t] : 0;
        }

        int letterOf(int t) {
            return has(t) ? letter[t] : NONE;
        }

        int typeOf(int t) {
            return has(t) ? type[t] : NONE;
        }

        int firstOf(int t) {
            return has(t) ? first[t] : NONE;
        }

        int secondOf(int t) {
            return has(t) ? second[t] : NONE;
        }

        int thirdOf(int t) {
            return has(t) ? third[t] : NONE;
        }

        int sizeOf(int t) {
            return has(t) ? size[t] : 0;
        }

        int depthOf(int t) {
            return has(t) ? depth[t] : 0;
        }

        int freeLettersOf(int t) {
            return has(t) ? freeLetters[t] : 0;
        }

        /** How many bytes the text of a term has. */
        int widthOf(int t) {
            return has(t) ? width[t] : 0;
        }

        boolean isFree(int t, int x) {
            return (freeLettersOf(t) & bit(x)) != 0;
        }

        private int usesOf(int t, int x) {
            if (!isFree(t, x)) {
                return 0;
            }
            if (kindOf(t) == NAME) {
                return 1;
            }
            if (kindOf(t) == LET && letterOf(t) == x) {
                return usesOf(firstOf(t), x);
            }
            return usesOf(firstOf(t), x) + usesOf(secondOf(t), x) + usesOf(thirdOf(t), x);
        }

        int newNumber(int n) {
            int t = made(NUMBER, NONE, NONE, NONE, NONE, NONE);
            if (has(t)) {
                number[t] = n;
                width[t] = digitsOf(n);
            }
            return t;
        }

        int newName(int x) {
            return made(NAME, x, NONE, NONE, NONE, NONE);
        }

        int newFunction(int x, int ofType, int b) {
            return made(FUNCTION, x, ofType, b, NONE, NONE);
        }

        int newLet(int x, int e, int b) {
            return made(LET, x, NONE, e, b, NONE);
        }

        int newJoined(int joinKind, int a, int b, int c) {
            return made(joinKind, NONE, NONE, a, b, c);
        }

        /** The term t with another letter and other parts; t itself, if all of them are its own. */
        int withParts(int t, int x, int a, int b, int c) {
            if (x == letterOf(t) && a == firstOf(t) && b == secondOf(t) && c == thirdOf(t)) {
                return t;
            }
            return made(kindOf(t), x, typeOf(t), a, b, c);
        }

        void cutTo(int mark) {
            if (mark >= 0 && mark < total) {
                total = mark;
            }
        }

        private int made(int newKind, int x, int ofType, int a, int b, int c) {
            int newSize = 1 + sizeOf(a) + sizeOf(b) + sizeOf(c);
            int newDepth = 1 + Math.max(depthOf(a), Math.max(depthOf(b), depthOf(c)));
            if (total >= MOST_TERMS || newSize > MOST_SIZE || newDepth > MOST_DEPTH) {
                return FULL;
            }
            int t = total;
            kind[t] = newKind;
            number[t] = 0;
            letter[t] = x;
            type[t] = ofType;
            first[t] = a;
            second[t] = b;
            third[t] = c;
            size[t] = newSize;
            depth[t] = newDepth;
            freeLetters[t] = freeLettersFor(newKind, bit(x), freeLettersOf(a), freeLettersOf(b), freeLettersOf(c));
            width[t] = marksOf(newKind) + types.lengthOf(ofType) + widthOf(a) + widthOf(b) + widthOf(c);
            total++;
            return t;
        }

        private static int freeLettersFor(int kind, int own, int inFirst, int inSecond, int inThird) {
            switch (kind) {
                case NAME: return own;
                case FUNCTION: return inFirst & ~own;
                case LET: return inFirst | (inSecond & ~own);
                default: return inFirst | inSecond | inThird;
            }
        }

        /** The bytes of a text beside those of its parts and its type. */
        private static int marksOf(int kind) {
            switch (kind) {
                case NAME: return 1;
                case FUNCTION: return 4;
                case CALL: return 3;
                case LET: return 4;
                case SUM: return 3;
                case CHOICE: return 4;
                default: return 0;
            }
        }

        private static int digitsOf(int n) {
            int digits = n < 0 ? 2 : 1;
            int rest = n / 10;
            for (int i = 0; i < 10 && rest != 0; i++) {
                rest /= 10;
                digits++;
            }
            return digits;
        }

        private static int bit(int x) {
            return x >= 0 && x < LETTERS ? 1 << x : 0;
        }
    }

    /** Finds types of terms; keeps what names are declared to have and the latest fault. */
    private static final class Typist {
        private final Types types;
        private final Terms terms;
        private final int[] declared = new int[LETTERS];
        private final int[] known = new int[LETTERS];
        private int fault;
        private int faultAt;

        Typist(Types types, Terms terms) {
            this.types = types;
            this.terms = terms;
            for (int x = 0; x < LETTERS; x++) {
                declared[x] = NONE;
            }
            fault = 0;
            faultAt = NONE;
        }

        void setDeclared(int x, int type) {
            if (isLetter(x)) {
                declared[x] = type;
            }
        }

        int latestFault() {
            return fault;
        }

        int latestFaultAt() {
            return faultAt;
        }

        int wholeTypeOf(int t) {
            fault = 0;
            faultAt = NONE;
            for (int x = 0; x < LETTERS; x++) {
                known[x] = declared[x];
            }
            int mark = types.total();
            int found = typeFor(t);
            if (found < 0) {
                types.cutTo(mark);
            }
            return found;
        }

        private int typeFor(int t) {
            switch (terms.kindOf(t)) {
                case NUMBER: return INT;
                case NAME: return typeForName(t);
                case FUNCTION: return typeForFunction(t);
                case CALL: return typeForCall(t);
                case LET: return typeForLet(t);
                case SUM: return typeForSum(t);
                case CHOICE: return typeForChoice(t);
                default: return NONE;
            }
        }

        private int typeForName(int t) {
            int found = knownOf(terms.letterOf(t));
            return found < 0 ? faulty(1, t) : found;
        }

        private int typeForFunction(int t) {
            int from = terms.typeOf(t);
            int to = typeUnder(terms.letterOf(t), from, terms.firstOf(t));
            return to < 0 ? to : types.arrowOf(from, to);
        }

        private int typeForCall(int t) {
            int f = terms.firstOf(t);
            int called = typeFor(f);
            if (called < 0) {
                return called;
            }
            if (called == INT) {
                return faulty(2, f);
            }
            int given = typeThatIs(types.fromOf(called), terms.secondOf(t));
            return given < 0 ? given : types.toOf(called);
        }

        private int typeForLet(int t) {
            int bound = typeFor(terms.firstOf(t));
            return bound < 0 ? bound : typeUnder(terms.letterOf(t), bound, terms.secondOf(t));
        }

        private int typeForSum(int t) {
            int found = typeThatIs(INT, terms.firstOf(t));
            return found < 0 ? found : typeThatIs(INT, terms.secondOf(t));
        }

        private int typeForChoice(int t) {
            int asked = typeThatIs(INT, terms.firstOf(t));
            if (asked < 0) {
                return asked;
            }
            int found = typeFor(terms.secondOf(t));
            return found < 0 ? found : typeThatIs(found, terms.thirdOf(t));
        }

        private int typeThatIs(int wanted, int t) {
            int found = typeFor(t);
            return found < 0 || found == wanted ? found : faulty(3, t);
        }

        private int typeUnder(int x, int bound, int b) {
            int before = knownOf(x);
            setKnown(x, bound);
            int found = typeFor(b);
            setKnown(x, before);
            return found;
        }

        private int knownOf(int x) {
            return isLetter(x) ? known[x] : NONE;
        }

        private void setKnown(int x, int type) {
            if (isLetter(x)) {
                known[x] = type;
            }
        }

        private int faulty(int which, int t) {
            fault = which;
            faultAt = t;
            return NONE;
        }
    }

    /** Tells whether terms are alike: for each letter it holds the level that binds it on either side. */
    private static final class Comparer {
        private final Terms terms;
        private final int[] leftLevel = new int[LETTERS];
        private final int[] rightLevel = new int[LETTERS];

        Comparer(Terms terms) {
            this.terms = terms;
        }

        boolean areAlike(int t, int u) {
            for (int x = 0; x < LETTERS; x++) {
                leftLevel[x] = NONE;
                rightLevel[x] = NONE;
            }
            return same(t, u, 0);
        }

        private boolean same(int t, int u, int level) {
            int kind = terms.kindOf(t);
            // what is alike has one size: to ask it first spares most walks
            if (kind != terms.kindOf(u) || terms.sizeOf(t) != terms.sizeOf(u)) {
                return false;
            }
            switch (kind) {
                case NUMBER:
                    return terms.numberOf(t) == terms.numberOf(u);
                case NAME:
                    return sameName(terms.letterOf(t), terms.letterOf(u));
                case FUNCTION:
                    return terms.typeOf(t) == terms.typeOf(u)
                        && sameUnder(t, terms.firstOf(t), u, terms.firstOf(u), level);
                case LET:
                    return same(terms.firstOf(t), terms.firstOf(u), level)
                        && sameUnder(t, terms.secondOf(t), u, terms.secondOf(u), level);
                case CALL:
                case SUM:
                case CHOICE:
                    return same(terms.firstOf(t), terms.firstOf(u), level)
                        && same(terms.secondOf(t), terms.secondOf(u), level)
                        && same(terms.thirdOf(t), terms.thirdOf(u), level);
                default:
                    return true;
            }
        }

        private boolean sameName(int x, int y) {
            if (!isLetter(x) || !isLetter(y) || leftLevel[x] != rightLevel[y]) {
                return false;
            }
            return leftLevel[x] != NONE || x == y;
        }

        private boolean sameUnder(int t, int b, int u, int c, int level) {
            int x = terms.letterOf(t);
            int y = terms.letterOf(u);
            if (!isLetter(x) || !isLetter(y)) {
                return false;
            }
            int leftBefore = leftLevel[x];
            int rightBefore = rightLevel[y];
            leftLevel[x] = level;
            rightLevel[y] = level;
            boolean answer = same(b, c, level + 1);
            leftLevel[x] = leftBefore;
            rightLevel[y] = rightBefore;
            return answer;
        }
    }

    /** Puts terms for names into terms; what it made before FULL, its caller undoes. */
    private static final class Putter {
        private final Terms terms;

        Putter(Terms terms) {
            this.terms = terms;
        }

        private int into(int t, int x, int u) {
            if (!terms.isFree(t, x)) {
                return t;
            }
            switch (terms.kindOf(t)) {
                case NAME: return u;
                case FUNCTION: return intoFunction(t, x, u);
                case LET: return intoLet(t, x, u);
                default: return intoParts(t, x, u);
            }
        }

        private int intoParts(int t, int x, int u) {
            int a = into(terms.firstOf(t), x, u);
            if (a == FULL) {
                return FULL;
            }
            int b = into(terms.secondOf(t), x, u);
            if (b == FULL) {
                return FULL;
            }
            int c = into(terms.thirdOf(t), x, u);
            return c == FULL ? FULL : terms.withParts(t, terms.letterOf(t), a, b, c);
        }

        private int intoFunction(int t, int x, int u) {
            int b = terms.firstOf(t);
            int z = letterFor(terms.letterOf(t), b, u);
            int newBody = intoBody(b, terms.letterOf(t), z, x, u);
            return newBody < 0 ? FULL : terms.withParts(t, z, newBody, NONE, NONE);
        }

        private int intoLet(int t, int x, int u) {
            int y = terms.letterOf(t);
            int b = terms.secondOf(t);
            int e = into(terms.firstOf(t), x, u);
            if (e < 0) {
                return FULL;
            }
            if (y == x || !terms.isFree(b, x)) {
                return terms.withParts(t, y, e, b, NONE);
            }
            int z = letterFor(y, b, u);
            int newBody = intoBody(b, y, z, x, u);
            return newBody < 0 ? FULL : terms.withParts(t, z, e, newBody, NONE);
        }

        /** The letter to bind instead of y, so that no name of u is caught. */
        private int letterFor(int y, int b, int u) {
            if (!terms.isFree(u, y)) {
                return y;
            }
            for (int z = 0; z < LETTERS; z++) {
                if (!terms.isFree(b, z) && !terms.isFree(u, z)) {
                    return z;
                }
            }
            return FULL;
        }

        private int intoBody(int b, int y, int z, int x, int u) {
            if (z < 0) {
                return FULL;
            }
            if (z == y) {
                return into(b, x, u);
            }
            int newName = terms.newName(z);
            if (newName < 0) {
                return FULL;
            }
            int renamed = into(b, y, newName);
            return renamed < 0 ? FULL : into(renamed, x, u);
        }
    }

    /** Makes single steps; what it made before FULL, its caller undoes. */
    private static final class Stepper {
        private final Terms terms;
        private final Putter putter;

        Stepper(Terms terms, Putter putter) {
            this.terms = terms;
            this.putter = putter;
        }

        private int stepOf(int t) {
            switch (terms.kindOf(t)) {
                case CALL: return stepOfCall(t);
                case LET: return putter.into(terms.secondOf(t), terms.letterOf(t), terms.firstOf(t));
                case SUM: return stepOfSum(t);
                case CHOICE: return stepOfChoice(t);
                default: return NONE;
            }
        }

        private int stepOfCall(int t) {
            int f = terms.firstOf(t);
            if (terms.kindOf(f) == FUNCTION) {
                return putter.into(terms.firstOf(f), terms.letterOf(f), terms.secondOf(t));
            }
            return stepOfFirst(t);
        }

        private int stepOfSum(int t) {
            int a = terms.firstOf(t);
            int b = terms.secondOf(t);
            if (terms.kindOf(a) != NUMBER) {
                return stepOfFirst(t);
            }
            if (terms.kindOf(b) == NUMBER) {
                return terms.newNumber(terms.numberOf(a) + terms.numberOf(b));
            }
            int next = stepOf(b);
            return next < 0 ? next : terms.withParts(t, NONE, a, next, NONE);
        }

        private int stepOfChoice(int t) {
            int a = terms.firstOf(t);
            if (terms.kindOf(a) != NUMBER) {
                return stepOfFirst(t);
            }
            return terms.numberOf(a) != 0 ? terms.secondOf(t) : terms.thirdOf(t);
        }

        private int stepOfFirst(int t) {
            int next = stepOf(terms.firstOf(t));
            return next < 0 ? next : terms.withParts(t, NONE, next, terms.secondOf(t), terms.thirdOf(t));
        }
    }

    /** Drops lets that are not used; what it made before FULL, its caller undoes. */
    private static final class Dropper {
        private final Terms terms;

        Dropper(Terms terms) {
            this.terms = terms;
        }

        private int withoutLets(int t) {
            if (!terms.has(t)) {
                return t;
            }
            int a = withoutLets(terms.firstOf(t));
            if (a == FULL) {
                return FULL;
            }
            int b = withoutLets(terms.secondOf(t));
            if (b == FULL) {
                return FULL;
            }
            int c = withoutLets(terms.thirdOf(t));
            if (c == FULL) {
                return FULL;
            }
            if (terms.kindOf(t) == LET && !terms.isFree(b, terms.letterOf(t))) {
                return b;
            }
            return terms.withParts(t, terms.letterOf(t), a, b, c);
        }
    }

    /** Holds THE PRINT and writes the texts of terms into it. */
    private static final class Printer {
        private final Types types;
        private final Terms terms;
        private final byte[] bytes = new byte[PRINT_ROOM];
        private int length;

        Printer(Types types, Terms terms) {
            this.types = types;
            this.terms = terms;
            length = 0;
        }

        int printLength() {
            return length;
        }

        int byteAt(int i) {
            return i >= 0 && i < length && i < PRINT_ROOM ? bytes[i] & 255 : BAD;
        }

        int show(int t) {
            if (terms.widthOf(t) > PRINT_ROOM) {
                return FULL;
            }
            length = 0;
            writeTerm(t);
            return length;
        }

        private void writeTerm(int t) {
            switch (terms.kindOf(t)) {
                case NUMBER: writeNumber(terms.numberOf(t), terms.widthOf(t)); break;
                case NAME: writeLetter(terms.letterOf(t)); break;
                case FUNCTION: writeFunction(t); break;
                case CALL: writePair(t, ' '); break;
                case LET: writeLet(t); break;
                case SUM: writePair(t, '+'); break;
                case CHOICE: writeChoice(t); break;
                default: break;
            }
        }

        private void writeNumber(int n, int width) {
            long rest = Math.abs((long) n);
            int start = length;
            for (int i = 0; i < width; i++) {
                write('0');
            }
            for (int i = length - 1; i >= start && i >= 0 && i < PRINT_ROOM; i--) {
                bytes[i] = (byte) ('0' + rest % 10);
                rest /= 10;
            }
            if (n < 0 && start < PRINT_ROOM) {
                bytes[start] = '-';
            }
        }

        private void writeFunction(int t) {
            write('\\');
            writeLetter(terms.letterOf(t));
            write(':');
            writeType(terms.typeOf(t));
            write('.');
            writeTerm(terms.firstOf(t));
        }

        private void writeLet(int t) {
            write('[');
            writeLetter(terms.letterOf(t));
            write('=');
            writeTerm(terms.firstOf(t));
            write(']');
            writeTerm(terms.secondOf(t));
        }

        private void writePair(int t, int between) {
            write('(');
            writeTerm(terms.firstOf(t));
            write(between);
            writeTerm(terms.secondOf(t));
            write(')');
        }

        private void writeChoice(int t) {
            write('{');
            writeTerm(terms.firstOf(t));
            write('?');
            writeTerm(terms.secondOf(t));
            write(':');
            writeTerm(terms.thirdOf(t));
            write('}');
        }

        private void writeType(int type) {
            if (type <= INT || !types.has(type)) {
                write('i');
                return;
            }
            write('(');
            writeType(types.fromOf(type));
            write('>');
            writeType(types.toOf(type));
            write(')');
        }

        private void writeLetter(int x) {
            write('a' + x);
        }

        private void write(int c) {
            if (length >= 0 && length < PRINT_ROOM) {
                bytes[length] = (byte) c;
                length++;
            }
        }
    }

    /** Holds THE TAPE and reads it; a reading that is below 0 ends all readings around it. */
    private static final class Reader {
        private final Types types;
        private final Terms terms;
        private final byte[] tape = new byte[TAPE_ROOM];
        private int length;
        private int place;

        Reader(Types types, Terms terms) {
            this.types = types;
            this.terms = terms;
            length = 0;
            place = 0;
        }

        int tapeLength() {
            return length;
        }

        int addBytes(long w, int n) {
            if (n < 1 || n > 8) {
                return BAD;
            }
            if (length + n > TAPE_ROOM) {
                return FULL;
            }
            for (int i = n - 1; i >= 0; i--) {
                add((int) (w >>> (8 * i)));
            }
            return length;
        }

        int takeFrom(Printer printer) {
            int newLength = printer.printLength();
            if (newLength > TAPE_ROOM) {
                return FULL;
            }
            length = 0;
            for (int i = 0; i < newLength; i++) {
                add(printer.byteAt(i));
            }
            return length;
        }

        int wholeTape() {
            int termMark = terms.total();
            int typeMark = types.total();
            place = 0;
            int t = termHere(1);
            if (t >= 0 && place < length) {
                t = wrongHere();
            }
            if (t < 0) {
                terms.cutTo(termMark);
                types.cutTo(typeMark);
            }
            length = 0;
            return t;
        }

        private void add(int c) {
            if (length >= 0 && length < TAPE_ROOM) {
                tape[length] = (byte) c;
                length++;
            }
        }

        private int termHere(int level) {
            int c = byteHere();
            // a byte that begins no term is told at every level: only one that begins the 41st finds FULL
            if (!beginsTerm(c)) {
                return wrongHere();
            }
            if (level > MOST_DEPTH) {
                return FULL;
            }
            switch (c) {
                case '\\': return functionHere(level);
                case '(': return pairHere(level);
                case '[': return letHere(level);
                case '{': return choiceHere(level);
                default: return isLetter(c - 'a') ? nameHere() : numberHere();
            }
        }

        private int nameHere() {
            int x = byteHere() - 'a';
            place++;
            return terms.newName(x);
        }

        private int numberHere() {
            int sign = 1;
            if (byteHere() == '-') {
                sign = -1;
                place++;
                if (!isDigit(byteHere()) || byteHere() == '0') {
                    return wrongHere();
                }
            }
            if (byteHere() == '0') {
                place++;
                return terms.newNumber(0);
            }
            long value = 0;
            for (; place < length && isDigit(byteHere()); place++) {
                value = value * 10 + sign * (byteHere() - '0');
                if (value != (int) value) {
                    return wrongHere();
                }
            }
            return terms.newNumber((int) value);
        }

        private int functionHere(int level) {
            int x = letterBehind('\\');
            if (x < 0) {
                return x;
            }
            int wrong = pass(':');
            if (wrong < 0) {
                return wrong;
            }
            // types count on from the terms around them: the bound is that of both together
            int type = typeHere(level + 1);
            if (type < 0) {
                return type;
            }
            int b = termBehind('.', level + 1);
            return b < 0 ? b : terms.newFunction(x, type, b);
        }

        private int pairHere(int level) {
            int a = termBehind('(', level + 1);
            if (a < 0) {
                return a;
            }
            int between = byteHere();
            if (between != ' ' && between != '+') {
                return wrongHere();
            }
            int b = termBehind(between, level + 1);
            if (b < 0) {
                return b;
            }
            int wrong = pass(')');
            return wrong < 0 ? wrong : terms.newJoined(between == ' ' ? CALL : SUM, a, b, NONE);
        }

        private int letHere(int level) {
            int x = letterBehind('[');
            if (x < 0) {
                return x;
            }
            int e = termBehind('=', level + 1);
            if (e < 0) {
                return e;
            }
            int b = termBehind(']', level + 1);
            return b < 0 ? b : terms.newLet(x, e, b);
        }

        private int choiceHere(int level) {
            int a = termBehind('{', level + 1);
            if (a < 0) {
                return a;
            }
            int b = termBehind('?', level + 1);
            if (b < 0) {
                return b;
            }
            int c = termBehind(':', level + 1);
            if (c < 0) {
                return c;
            }
            int wrong = pass('}');
            return wrong < 0 ? wrong : terms.newJoined(CHOICE, a, b, c);
        }

        private int typeHere(int level) {
            int c = byteHere();
            if (!beginsType(c)) {
                return wrongHere();
            }
            // LENGTH is known only where an arrow ends, so it cannot be the bound of the nesting
            if (level > MOST_DEPTH) {
                return FULL;
            }
            if (c == 'i') {
                place++;
                return INT;
            }
            int from = typeBehind('(', level + 1);
            if (from < 0) {
                return from;
            }
            int to = typeBehind('>', level + 1);
            if (to < 0) {
                return to;
            }
            int wrong = pass(')');
            return wrong < 0 ? wrong : types.arrowOf(from, to);
        }

        private int termBehind(int c, int level) {
            int wrong = pass(c);
            return wrong < 0 ? wrong : termHere(level);
        }

        private int typeBehind(int c, int level) {
            int wrong = pass(c);
            return wrong < 0 ? wrong : typeHere(level);
        }

        private int letterBehind(int c) {
            int wrong = pass(c);
            if (wrong < 0) {
                return wrong;
            }
            int x = byteHere() - 'a';
            if (!isLetter(x)) {
                return wrongHere();
            }
            place++;
            return x;
        }

        private int pass(int c) {
            if (byteHere() != c) {
                return wrongHere();
            }
            place++;
            return 0;
        }

        private int byteHere() {
            return place >= 0 && place < length && place < TAPE_ROOM ? tape[place] & 255 : NONE;
        }

        private int wrongHere() {
            return FIRST_PLACE - place;
        }

        private static boolean beginsTerm(int c) {
            return isDigit(c) || isLetter(c - 'a') || c == '-' || c == '\\' || c == '(' || c == '[' || c == '{';
        }

        private static boolean beginsType(int c) {
            return c == 'i' || c == '(';
        }

        private static boolean isDigit(int c) {
            return c >= '0' && c <= '9';
        }
    }
}
