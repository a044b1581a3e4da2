import java.nio.charset.StandardCharsets;
import java.util.function.IntSupplier;
import java.util.function.Supplier;
import java.util.function.ToLongFunction;

/** What the project's tests share: rows of answers that are due, and texts for THE TAPE and of THE PRINT. */
final class Check {
    private final String title;
    private String of = "";
    private int rows = 0;
    private int wrong = 0;

    Check(String title) {
        this.title = title;
    }

    /** The rows that follow are of this sentence of the document. */
    void sentence(int promise, String words) {
        of = "promise " + promise + ", '" + words + "': ";
    }

    void due(String row, long got, long want) {
        due(row, Long.toString(got), Long.toString(want));
    }

    void due(String row, String got, String want) {
        rows++;
        if (!got.equals(want)) {
            wrong++;
            System.out.println(title + ": " + of + row + " answered " + got + ", due is " + want);
        }
    }

    /** A row for which the whole state must stay as it is. */
    void refused(String row, CoreTerms core, IntSupplier call, int want) {
        String before = stateOf(core);
        due(row, call.getAsInt(), want);
        sameState(row, stateOf(core), before);
    }

    /** A row on one of two objects made alike: behind it the two must be alike in all, THE TAPE and what is DECLARED too. */
    void refused(String row, Supplier<CoreTerms> made, ToLongFunction<CoreTerms> call, long want) {
        CoreTerms core = made.get();
        due(row, call.applyAsLong(core), want);
        sameState(row, wholeStateOf(core), wholeStateOf(made.get()));
    }

    /** Of two states that differ only the first line that does is told. */
    private void sameState(String row, String got, String want) {
        String[] gotLines = got.split("\n"), wantLines = want.split("\n");
        int i = 0;
        while (i < gotLines.length - 1 && i < wantLines.length - 1 && gotLines[i].equals(wantLines[i])) {
            i++;
        }
        due(row + " (the state)", got.equals(want) ? want : gotLines[i], got.equals(want) ? want : wantLines[i] + " (or more)");
    }

    void end() {
        System.out.println(title + ": " + rows + " rows, " + wrong + " wrong");
        if (wrong != 0) {
            System.exit(1);
        }
    }

    /** The text comes behind THE TAPE, up to eight bytes a call; the last answer. */
    static int feed(CoreTerms core, String text) {
        byte[] bytes = text.getBytes(StandardCharsets.ISO_8859_1);
        int answer = core.count(2);
        for (int i = 0; i < bytes.length; i += 8) {
            int n = Math.min(8, bytes.length - i);
            long w = 0;
            for (int k = 0; k < n; k++) {
                w = (w << 8) | (bytes[i + k] & 255);
            }
            answer = core.feed(w, n);
            if (answer < 0) {
                return answer;
            }
        }
        return answer;
    }

    static int read(CoreTerms core, String text) {
        feed(core, text);
        return core.read();
    }

    static String printed(CoreTerms core) {
        StringBuilder text = new StringBuilder();
        for (int i = 0; i < core.count(3); i++) {
            text.append((char) core.at(i));
        }
        return text.toString();
    }

    /** The text of a term (THE PRINT changes), or an answer below 0 in angle brackets. */
    static String text(CoreTerms core, int t) {
        int length = t < 0 ? t : core.print(t);
        return length < 0 ? "<" + length + ">" : printed(core);
    }

    /** All that can be asked without a change; more calls than the document's 512, which this class does not count. */
    static String stateOf(CoreTerms core) {
        StringBuilder state = new StringBuilder();
        for (int what = 0; what < 4; what++) {
            state.append(core.count(what)).append(' ');
        }
        state.append(core.fault(0)).append(' ').append(core.fault(1)).append(' ').append(core.ran()).append('\n');
        for (int type = 0; type < core.count(1); type++) {
            state.append(core.side(type, 0)).append('>').append(core.side(type, 1)).append(' ');
        }
        state.append('\n');
        for (int t = 0; t < core.count(0); t++) {
            for (int what = 0; what < 9; what++) {
                state.append(core.told(t, what)).append(' ');
            }
            state.append(core.free(t)).append('\n');
        }
        return state.append(printed(core)).toString();
    }

    /** Also what can be seen only by changing it: the object is of no use behind this. */
    private static String wholeStateOf(CoreTerms core) {
        StringBuilder state = new StringBuilder(stateOf(core));
        core.clear();
        int t = core.read();
        state.append("\ntape ").append(t).append(' ').append(text(core, t)).append("\ndeclared");
        core.clear();
        for (int x = 0; x < 26; x++) {
            state.append(' ').append(core.type(core.name(x)));
        }
        return state.toString();
    }
}
