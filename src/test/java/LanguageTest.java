import java.lang.reflect.Constructor;
import java.lang.reflect.Field;
import java.lang.reflect.Method;
import java.lang.reflect.Modifier;
import java.nio.file.Files;
import java.nio.file.Path;
import java.util.ArrayList;
import java.util.List;
import java.util.Set;
import java.util.TreeSet;
import java.util.regex.Matcher;
import java.util.regex.Pattern;

/** The public face, and those rules of LANGUAGE.md that a program can look at; run from the project's root. */
public final class LanguageTest {
    private static final String SOURCE = "src/main/java/CoreTerms.java";
    private static final String[] FACE = {"int arrow(int,int)", "int side(int,int)", "int declare(int,int)", "int number(int)",
        "int name(int)", "int function(int,int,int)", "int let(int,int,int)", "int join(int,int,int,int)", "long told(int,int)",
        "int free(int)", "int uses(int,int)", "int type(int)", "int fault(int)", "int alike(int,int)", "int least(int)",
        "int put(int,int,int)", "int step(int)", "int run(int,int)", "int ran()", "int drop(int)", "int print(int)", "int at(int)",
        "int feed(long,int)", "int copy()", "int read()", "int count(int)", "int clear()"};
    private static final String[] NO_WORDS = {"throw", "throws", "try", "catch", "finally", "synchronized", "assert", "import",
        "package", "native", "volatile", "transient", "System", "Object", "Thread", "Exact", "record", "public static int"};

    public static void main(String[] args) throws Exception {
        Check check = new Check("language");
        face(check);
        nested(check);
        words(check);
        lengths(check);
        check.end();
    }

    private static String signature(Method method) {
        StringBuilder text = new StringBuilder(method.getReturnType().getSimpleName() + " " + method.getName() + "(");
        for (int i = 0; i < method.getParameterCount(); i++) {
            text.append(i == 0 ? "" : ",").append(method.getParameterTypes()[i].getSimpleName());
        }
        return text.append(")").toString();
    }

    private static void face(Check check) throws Exception {
        Class<?> face = CoreTerms.class;
        check.due("public and final", Modifier.toString(face.getModifiers()), "public final");
        Set<String> open = new TreeSet<>();
        for (Method method : face.getDeclaredMethods()) {
            if (!Modifier.isPrivate(method.getModifiers())) {
                check.due(method.getName(), Modifier.toString(method.getModifiers()), "public");
                open.add(signature(method));
            }
        }
        check.due("methods", open.toString(), new TreeSet<>(List.of(FACE)).toString());
        List<String> fields = new ArrayList<>();
        for (Field field : face.getDeclaredFields()) {
            if (!Modifier.isPrivate(field.getModifiers())) {
                fields.add(Modifier.toString(field.getModifiers()) + " " + field.getType() + " " + field.getName() + " " + field.getInt(null));
            }
        }
        check.due("constants", fields.toString(), "[public static final int BAD -1, public static final int NONE -2, "
            + "public static final int FULL -3]");
        Constructor<?>[] constructors = face.getDeclaredConstructors();
        check.due("constructors", constructors.length, 1);
        check.due("the constructor", Modifier.toString(constructors[0].getModifiers()) + constructors[0].getParameterCount(), "public0");
    }

    private static void nested(Check check) {
        Set<String> names = new TreeSet<>();
        for (String signature : FACE) {
            names.add(signature.substring(signature.indexOf(' ') + 1, signature.indexOf('(')));
        }
        List<Class<?>> classes = new ArrayList<>(List.of(CoreTerms.class.getDeclaredClasses()));
        check.due("at most twelve classes", classes.size() <= 11 ? 1 : 0, 1);
        for (Class<?> inner : classes) {
            check.due(inner.getName() + " is static", Modifier.isStatic(inner.getModifiers()) ? 1 : 0, 1);
            check.due(inner.getName() + " is not public", Modifier.isPublic(inner.getModifiers()) ? 1 : 0, 0);
        }
        classes.add(CoreTerms.class);
        for (Class<?> each : classes) {
            int own = 0;
            for (Field field : each.getDeclaredFields()) {
                own += Modifier.isStatic(field.getModifiers()) ? 0 : 1;
                check.due(each.getName() + "." + field.getName() + ": static is final",
                    Modifier.isStatic(field.getModifiers()) && !Modifier.isFinal(field.getModifiers()) ? 1 : 0, 0);
            }
            check.due(each.getName() + " has few fields", own <= 20 ? 1 : 0, 1);
            for (Method method : each.getDeclaredMethods()) {
                boolean bears = names.contains(method.getName()) && Modifier.isPrivate(method.getModifiers());
                check.due(each.getName() + "." + method.getName() + " bears its own name", bears ? 1 : 0, 0);
                check.due(each.getName() + "." + method.getName() + " has few parameters", method.getParameterCount() <= 7 ? 1 : 0, 1);
            }
        }
    }

    private static String withoutComments() throws Exception {
        String source = Files.readString(Path.of(SOURCE));
        return source.replaceAll("(?s)/\\*.*?\\*/", "").replaceAll("//[^\n]*", "");
    }

    private static void words(Check check) throws Exception {
        String code = withoutComments();
        for (String word : NO_WORDS) {
            Matcher found = Pattern.compile("\\b" + word + "\\b").matcher(code);
            check.due("the word " + word, found.find() ? 1 : 0, 0);
        }
        check.due("no lambda", code.contains("->") ? 1 : 0, 0);
        check.due("no method reference", code.contains("::") ? 1 : 0, 0);
        int insideMethods = 0;
        Matcher made = Pattern.compile("\n( +)[^\n]*\\bnew \\w+\\[").matcher(code);
        while (made.find()) {
            insideMethods += made.group(1).length() > 8 ? 1 : 0;
        }
        check.due("rows are made with their object alone", insideMethods, 0);
    }

    private static void lengths(Check check) throws Exception {
        String[] lines = Files.readString(Path.of(SOURCE)).split("\n");
        int start = -1;
        for (int i = 0; i < lines.length; i++) {
            if (lines[i].matches(" {4,8}[a-zA-Z][^=]*\\) \\{")) {
                start = i;
            } else if (lines[i].matches(" {4,8}\\}") && start >= 0) {
                check.due("the method of line " + (start + 1) + " is short", i - start <= 60 ? 1 : 0, 1);
                start = -1;
            }
        }
    }
}
