import java.io.ByteArrayOutputStream;
import java.io.IOException;
import java.io.PrintStream;
import java.net.URLClassLoader;
import java.nio.charset.StandardCharsets;
import java.nio.file.Files;
import java.nio.file.Path;
import java.util.ArrayList;
import java.util.List;
import java.util.Set;
import java.util.TreeSet;
import java.util.regex.Matcher;
import java.util.regex.Pattern;

/** README.md tells each call, and what its examples print is so. */
public final class ReadmeTest {
    private static final Pattern BLOCK = Pattern.compile("(?ms)^```(\\w+)\n(.*?)^```$");
    private static final Pattern ROW = Pattern.compile("(x\\.(\\w+)\\(.*\\)); +// (-?\\d+|BAD|NO|FULL|NONE)(?:[:,] .*)?");
    private static final Pattern CALL = Pattern.compile("public int (\\w+\\([^)]*\\));");
    private static final Pattern PROMISE = Pattern.compile("(?s)## Promise \\d+: (\\w+)\n\n(.*?)\n##");
    private static final Pattern REFUSAL = Pattern.compile("\\b(BAD|NO|FULL|NONE)\\b");
    private static final Due DUE = new Due();

    public static void main(String[] args) throws IOException, ReflectiveOperationException {
        String readme = Files.readString(Path.of("README.md"));
        String document = Files.readString(Path.of("../shared/DOC.md"));
        Path main = Path.of(args.length > 0 ? args[0] : "src/main/java/TypedBlocks.java");
        eachCallIsTold(readme, document);
        eachRefusalIsTold(readme, document);
        try (Compiler compiler = new Compiler()) {
            Path classes = compiler.compiled(List.of(main));
            programsPrintWhatIsShown(readme, compiler, classes);
            rowsAnswerWhatIsShown(readme, compiler, classes);
        }
        DUE.finish();
    }

    /** The row of the README's tables that tells a call, by its head. */
    private static String told(String readme, String head) {
        return readme.lines().filter(line -> line.startsWith("| `" + head)).findFirst().orElse("");
    }

    private static void eachCallIsTold(String readme, String document) {
        DUE.part("each call is told, and has an example");
        Set<String> asked = new TreeSet<>();
        for (String row : rows(readme)) {
            Matcher m = ROW.matcher(row);
            if (m.matches()) {
                asked.add(m.group(2));
            }
        }
        int calls = 0;
        Matcher m = CALL.matcher(document);
        while (m.find()) {
            calls++;
            DUE.holds(m.group(1) + " is told", !told(readme, m.group(1) + "`").isEmpty());
            String name = m.group(1).substring(0, m.group(1).indexOf('('));
            DUE.holds(name + " has an example", asked.contains(name));
        }
        DUE.due("calls", calls, 26);
    }

    private static void eachRefusalIsTold(String readme, String document) {
        DUE.part("each refusal of a promise is told with its call");
        int promises = 0;
        Matcher m = PROMISE.matcher(document);
        // The end of one promise is the head of the next: begin anew ahead of it.
        for (int at = 0; m.find(at); at = m.end() - 2) {
            promises++;
            String row = told(readme, m.group(1) + "(");
            DUE.due("refusals of " + m.group(1) + " that are told", refusals(row).compareTo(refusals(m.group(2))), 0);
        }
        DUE.due("promises of calls", promises, 26);
    }

    private static String refusals(String text) {
        Set<String> all = new TreeSet<>();
        REFUSAL.matcher(text).results().forEach(found -> all.add(found.group(1)));
        return String.join(" ", all);
    }

    private static List<String> blocks(String readme, String kind) {
        List<String> all = new ArrayList<>();
        Matcher m = BLOCK.matcher(readme);
        while (m.find()) {
            if (m.group(1).equals(kind)) {
                all.add(m.group(2));
            }
        }
        return all;
    }

    private static boolean isProgram(String block) {
        return block.contains("public static void main");
    }

    /** The lines of all examples that are no whole programs. */
    private static List<String> rows(String readme) {
        List<String> all = new ArrayList<>();
        for (String block : blocks(readme, "java")) {
            if (!isProgram(block)) {
                all.addAll(block.lines().toList());
            }
        }
        return all;
    }

    private static void programsPrintWhatIsShown(String readme, Compiler compiler, Path classes)
        throws IOException, ReflectiveOperationException {
        DUE.part("a program prints what is shown");
        List<String> programs = blocks(readme, "java").stream().filter(ReadmeTest::isProgram).toList();
        List<String> prints = blocks(readme, "text");
        DUE.holds("there is a program", !programs.isEmpty());
        DUE.due("programs whose print is shown", prints.size(), programs.size());
        for (int i = 0; i < programs.size() && i < prints.size(); i++) {
            String printed = printed(compiler, classes, "Example", programs.get(i));
            DUE.holds("it prints " + printed, printed.equals(prints.get(i)));
        }
    }

    private static void rowsAnswerWhatIsShown(String readme, Compiler compiler, Path classes)
        throws IOException, ReflectiveOperationException {
        DUE.part("a row answers what is shown");
        StringBuilder body = new StringBuilder();
        int rows = 0;
        for (String block : blocks(readme, "java")) {
            if (isProgram(block)) {
                continue;
            }
            body.append("{\n");
            for (String line : block.lines().toList()) {
                Matcher m = ROW.matcher(line);
                DUE.holds("it tells its answer: " + line, m.matches() || !line.startsWith("x."));
                rows += m.matches() ? 1 : 0;
                body.append(m.matches() ? check(m.group(1), m.group(3)) : line).append('\n');
            }
            body.append("}\n");
        }
        DUE.holds("there are rows", rows > 26);
        String program = "public class Rows {\nstatic final int BAD = -1, NO = -2, FULL = -3, NONE = -4;\n"
            + "public static void main(String[] args) {\n" + body + "}\n}\n";
        String printed = printed(compiler, classes, "Rows", program);
        DUE.holds("rows are as shown: " + printed, printed.isEmpty());
    }

    private static String check(String call, String answer) {
        String told = call.replace("\\", "\\\\").replace("\"", "\\\"");
        return "{ int answer = " + call + "; if (answer != " + answer + ") System.out.println(\"" + told
            + " answered \" + answer + \", shown is " + answer + "\"); }";
    }

    private static String printed(Compiler compiler, Path classes, String name, String program)
        throws IOException, ReflectiveOperationException {
        Path folder = compiler.compiled(List.of(compiler.source(name, program)), classes);
        ByteArrayOutputStream bytes = new ByteArrayOutputStream();
        PrintStream out = System.out;
        try (URLClassLoader loader = Compiler.loader(folder, classes);
            PrintStream caught = new PrintStream(bytes, true, StandardCharsets.UTF_8)) {
            System.setOut(caught);
            loader.loadClass(name).getMethod("main", String[].class).invoke(null, (Object) new String[0]);
        } finally {
            System.setOut(out);
        }
        return bytes.toString(StandardCharsets.UTF_8);
    }
}
