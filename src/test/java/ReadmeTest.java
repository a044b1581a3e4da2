import java.nio.file.Files;
import java.nio.file.Path;
import java.util.List;

/** The examples of README.md: each line of them, and the answer that it tells; run from the project's root. */
public final class ReadmeTest {
    private final Check check = new Check("readme");
    private final List<String> lines;
    private int next = 0;

    private ReadmeTest(List<String> lines) {
        this.lines = lines;
    }

    public static void main(String[] args) throws Exception {
        ReadmeTest readme = new ReadmeTest(Files.readAllLines(Path.of("README.md")).stream()
            .filter(line -> line.contains("; ") && line.contains("// ")).toList());
        readme.examples();
        readme.check.due("examples", readme.lines.size(), readme.next);
        readme.check.end();
    }

    /** The next line must have this code, and its comment must begin with the answer. */
    private int line(String code, int answer) {
        String line = next < lines.size() ? lines.get(next) : "";
        next++;
        check.due(code + " in README.md", line.replaceAll(" *//.*", ""), code);
        check.due(code, answer, Long.parseLong(line.replaceAll(".*// (-?\\d+):.*", "$1")));
        return answer;
    }

    private void examples() {
        CoreTerms core = new CoreTerms();
        int x = line("int x = core.name(23);", core.name(23));
        int f = line("int f = core.function(23, 0, x);", core.function(23, 0, x));
        int call = line("int call = core.join(3, f, core.number(5), 0);", core.join(3, f, core.number(5), 0));
        line("core.type(call);", core.type(call));
        line("core.side(1, 0);", core.side(1, 0));
        line("core.print(call);", core.print(call));
        check.due("its text", Check.printed(core), "(\\x:i.x 5)");
        line("core.at(9);", core.at(9));
        line("core.run(call, 50);", core.run(call, 50));
        line("core.ran();", core.ran());
        line("core.feed(0x5b793d315d78L, 6);", core.feed(0x5b793d315d78L, 6));
        int t = line("int t = core.read();", core.read());
        check.due("its text", Check.text(core, t), "[y=1]x");
        int d = line("int d = core.drop(t);", core.drop(t));
        line("core.type(d);", core.type(d));
        line("core.fault(0);", core.fault(0));
        line("core.fault(1);", core.fault(1));
        line("core.declare(23, 0);", core.declare(23, 0));
        line("core.type(d);", core.type(d));
        line("core.feed(0x2831L, 2);", core.feed(0x2831L, 2));
        line("core.read();", core.read());
        int g = line("int g = core.function(24, 0, x);", core.function(24, 0, x));
        int y = line("int y = core.name(24);", core.name(24));
        int p = line("int p = core.put(g, 23, y);", core.put(g, 23, y));
        check.due("its text", Check.text(core, p), "\\a:i.y");
        line("core.alike(g, p);", core.alike(g, p));
        line("core.clear();", core.clear());
    }
}
