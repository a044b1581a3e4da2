import java.nio.file.Files;
import java.nio.file.Path;
import java.util.ArrayList;
import java.util.LinkedHashMap;
import java.util.LinkedHashSet;
import java.util.List;
import java.util.Map;
import java.util.Set;
import java.util.regex.Matcher;
import java.util.regex.Pattern;

/** Rules 8 and 11 of LANGUAGE.md: which methods of the class call which, found in its text; run from the project's root. */
public final class CallsTest {
    private static final String SOURCE = "src/main/java/CoreTerms.java";
    private static final String OUTER = "CoreTerms";
    private static final Pattern CLASS = Pattern.compile("^ {4}private static final class (\\w+) \\{$");
    private static final Pattern METHOD = Pattern.compile("^( {4}| {8})((?:public |private |static )*)(?:\\w+(?:\\[\\])? )?(\\w+)\\([^()]*\\) \\{$");
    private static final Pattern CALL = Pattern.compile("(?:(\\w+)\\.)?\\b(\\w+)\\(");
    /** The levels that DEPTH, and in read() the TERMS and TYPES within one another, allow, and the one that is refused. */
    private static final int LEVELS = 41;

    private final Map<String, Set<String>> calls = new LinkedHashMap<>();
    private final Map<String, String> words = new LinkedHashMap<>();

    public static void main(String[] args) throws Exception {
        Check check = new Check("calls");
        CallsTest graph = new CallsTest();
        graph.find(Files.readString(Path.of(SOURCE)));
        graph.rows(check);
        check.end();
    }

    private void find(String source) {
        String code = source.replaceAll("(?s)/\\*.*?\\*/", "").replaceAll("//[^\n]*", "").replaceAll("'(\\\\.|[^'\\\\])'", "' '");
        Map<String, String> bodies = new LinkedHashMap<>();
        String inside = OUTER, method = null, indent = "";
        for (String line : code.split("\n")) {
            Matcher itsClass = CLASS.matcher(line), itsMethod = METHOD.matcher(line);
            if (itsClass.matches()) {
                inside = itsClass.group(1);
            } else if (itsMethod.matches()) {
                method = inside + "." + itsMethod.group(3);
                indent = itsMethod.group(1);
                words.put(method, itsMethod.group(2));
                bodies.put(method, "");
            } else if (line.equals(indent + "}")) {
                method = null;
            } else if (method != null) {
                bodies.put(method, bodies.get(method) + line + "\n");
            }
        }
        for (String each : bodies.keySet()) {
            Set<String> called = new LinkedHashSet<>();
            Matcher call = CALL.matcher(bodies.get(each));
            while (call.find()) {
                String target = resolved(each.substring(0, each.indexOf('.')), call.group(1), call.group(2));
                if (words.containsKey(target)) {
                    called.add(target);
                }
            }
            calls.put(each, called);
        }
    }

    /** A call on a field goes to the class that the field is named for; another one to its own class or the one around it. */
    private String resolved(String inside, String field, String name) {
        if (field != null) {
            return field.substring(0, 1).toUpperCase() + field.substring(1) + "." + name;
        }
        String own = inside + "." + name;
        return words.containsKey(own) ? own : OUTER + "." + name;
    }

    private Set<String> reached(String method) {
        Set<String> found = new LinkedHashSet<>(calls.get(method));
        List<String> open = new ArrayList<>(found);
        while (!open.isEmpty()) {
            for (String next : calls.get(open.remove(open.size() - 1))) {
                if (found.add(next)) {
                    open.add(next);
                }
            }
        }
        return found;
    }

    private boolean recurs(String method) {
        return reached(method).contains(method);
    }

    /** The most methods, each but once, from one back to the first of them. */
    private int longestWay(String first, String here, Set<String> gone) {
        int longest = 0;
        for (String next : calls.get(here)) {
            if (next.equals(first)) {
                longest = Math.max(longest, gone.size());
            } else if (gone.add(next)) {
                longest = Math.max(longest, longestWay(first, next, gone));
                gone.remove(next);
            }
        }
        return longest;
    }

    private boolean together(String method, String other) {
        return method.equals(other) || reached(method).contains(other) && reached(other).contains(method);
    }

    /** The most calls open at once below a method; methods that call one another count as one, or with all their levels. */
    private int openBelow(String method, boolean levels) {
        int own = levels && recurs(method) ? LEVELS * longestWay(method, method, new LinkedHashSet<>(Set.of(method))) : 1;
        int below = 0;
        for (String member : calls.keySet()) {
            if (together(method, member)) {
                for (String next : calls.get(member)) {
                    below = together(method, next) ? below : Math.max(below, openBelow(next, levels));
                }
            }
        }
        return own + below;
    }

    private void rows(Check check) {
        check.due("methods are found", words.size() > 100 ? 1 : 0, 1);
        check.due("a call within a class is found", calls.get("Reader.termBehind").contains("Reader.termHere") ? 1 : 0, 1);
        check.due("a call of another class is found", calls.get("Terms.made").contains("Types.lengthOf") ? 1 : 0, 1);
        check.due("recursion is found", recurs("Reader.pairHere") && !recurs("Reader.pass") ? 1 : 0, 1);
        for (String method : words.keySet()) {
            if (recurs(method)) {
                check.due("rule 8: " + method + " recurs and is private", words.get(method).startsWith("private ") ? 1 : 0, 1);
            }
            if (words.get(method).startsWith("public ")) {
                check.due("rule 8: the calls open at once below " + method + " are under 300", openBelow(method, true) < 300 ? 1 : 0, 1);
                check.due("rule 11: calls below " + method + " go at most eight deep", openBelow(method, false) <= 8 ? 1 : 0, 1);
            }
        }
    }
}
