import java.nio.charset.StandardCharsets;
import java.util.function.IntSupplier;

/** What the project's tests share: rows of answers that are due, and texts for THE TAPE and of THE PRINT. */
final class Check {
    private final String title;
    private int rows = 0;
    private int wrong = 0;

    Check(String title) {
        this.title = title;
    }

    void due(String row, long got, long want) {
        rows++;
        if (got != want) {
            wrong++;
            System.out.println(title + ": " + row + " answered " + got + ", due is " + want);
        }
    }

    void due(String row, String got, String want) {
        rows++;
        if (!got.equals(want)) {
            wrong++;
            System.out.println(title + ": " + row + " answered " + got + ", due is " + want);
        }
    }

    /** A row for which the whole state must stay as it is. */
    void refused(String row, CoreTerms core, IntSupplier call, int want) {
        String before = stateOf(core);
        due(row, call.getAsInt(), want);
        due(row + " (the state)", stateOf(core), before);
    }

    void end() {
        System.out.println(title + ": " + rows + " rows, " + wrong + " wrong");
        if (wrong != 0) {
            System.exit(1);
        }
    }

    /** The text comes behind THE TAPE, up to eight bytes a call; the last answer. */
    static int feed(CoreTerms core, String text) {
        byte[] bytes = text.getBytes(StandardCharsets.ISO_8859_1);
        int answer = core.count(2);
        for (int i = 0; i < bytes.length; i += 8) {
            int n = Math.min(8, bytes.length - i);
            long w = 0;
            for (int k = 0; k < n; k++) {
                w = (w << 8) | (bytes[i + k] & 255);
            }
            answer = core.feed(w, n);
            if (answer < 0) {
                return answer;
            }
        }
        return answer;
    }

    static int read(CoreTerms core, String text) {
        feed(core, text);
        return core.read();
    }

    static String printed(CoreTerms core) {
        StringBuilder text = new StringBuilder();
        for (int i = 0; i < core.count(3); i++) {
            text.append((char) core.at(i));
        }
        return text.toString();
    }

    /** The text of a term (THE PRINT changes), or an answer below 0 in angle brackets. */
    static String text(CoreTerms core, int t) {
        int length = t < 0 ? t : core.print(t);
        return length < 0 ? "<" + length + ">" : printed(core);
    }

    /** All that can be asked without a change; more calls than the document's 512, which this class does not count. */
    static String stateOf(CoreTerms core) {
        StringBuilder state = new StringBuilder();
        for (int what = 0; what < 4; what++) {
            state.append(core.count(what)).append(' ');
        }
        state.append(core.fault(0)).append(' ').append(core.fault(1)).append(' ').append(core.ran()).append('\n');
        for (int type = 0; type < core.count(1); type++) {
            state.append(core.side(type, 0)).append('>').append(core.side(type, 1)).append(' ');
        }
        state.append('\n');
        for (int t = 0; t < core.count(0); t++) {
            for (int what = 0; what < 9; what++) {
                state.append(core.told(t, what)).append(' ');
            }
            state.append(core.free(t)).append('\n');
        }
        return state.append(printed(core)).toString();
    }
}
