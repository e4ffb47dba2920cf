import java.io.IOException;
import java.io.OutputStream;
import java.io.PrintStream;
import java.lang.reflect.Field;
import java.lang.reflect.InvocationTargetException;
import java.lang.reflect.Method;
import java.net.URLClassLoader;
import java.nio.file.Files;
import java.nio.file.Path;
import java.util.ArrayList;
import java.util.List;
import java.util.stream.Stream;

/**
 * src/test/document.txt quotes the document from its first line to its last, names the tests of each
 * sentence, and tells changes of the class that break it: all of it is quoted, each of its tests holds,
 * and each change is seen by one of them.
 */
public final class DocumentTest {
    private static final Due DUE = new Due();

    /** A sentence, or a part of one: the tests by Class.method, and the changes by which it does not hold. */
    private static final class Sentence {
        final StringBuilder quote = new StringBuilder();
        final List<String> tests = new ArrayList<>();
        final List<String> broken = new ArrayList<>();
        String free = "";
    }

    public static void main(String[] args) throws IOException, ReflectiveOperationException {
        String document = Files.readString(Path.of("../shared/DOC.md"));
        String source = Files.readString(Path.of(args.length > 0 ? args[0] : "src/main/java/TypedBlocks.java"));
        List<Sentence> sentences = read(Files.readAllLines(Path.of("src/test/document.txt")));
        allIsQuoted(document, sentences);
        eachHasATest(sentences);
        try (Compiler compiler = new Compiler()) {
            Path tests = compiler.compiled(sources(compiler, source));
            eachHolds(sentences, tests);
            eachChangeIsSeen(sentences, compiler, tests, source);
        }
        DUE.finish();
    }

    private static List<Sentence> read(List<String> lines) {
        List<Sentence> all = new ArrayList<>();
        String kind = "";
        for (String line : lines) {
            if (line.startsWith("> ")) {
                if (!kind.equals("> ")) {
                    all.add(new Sentence());
                }
                all.get(all.size() - 1).quote.append(line.substring(2)).append('\n');
            } else if (line.startsWith("tests: ")) {
                all.get(all.size() - 1).tests.addAll(List.of(line.substring(7).split(" ")));
            } else if (line.startsWith("broken: ")) {
                all.get(all.size() - 1).broken.add(line.substring(8));
            } else if (line.startsWith("free: ")) {
                all.get(all.size() - 1).free = line.substring(6);
            } else {
                DUE.holds("a line can be read: " + line, line.isEmpty() || line.startsWith("#"));
            }
            kind = line.startsWith("> ") ? "> " : "";
        }
        return all;
    }

    private static String withoutSpace(CharSequence text) {
        return text.toString().replaceAll("\\s+", "");
    }

    private static void allIsQuoted(String document, List<Sentence> sentences) {
        DUE.part("the document is quoted from its first line to its last");
        String whole = withoutSpace(document);
        int at = 0;
        for (Sentence s : sentences) {
            String quote = withoutSpace(s.quote);
            boolean is = whole.startsWith(quote, at);
            DUE.holds("it goes on with: " + s.quote + "but " + whole.substring(at, Math.min(whole.length(), at + 60)), is);
            if (!is) {
                return;
            }
            at += quote.length();
        }
        DUE.holds("nothing is behind: " + whole.substring(at, Math.min(whole.length(), at + 60)), at == whole.length());
    }

    private static void eachHasATest(List<Sentence> sentences) {
        DUE.part("each sentence has a test and a change that breaks it, or nothing in it can be broken");
        for (Sentence s : sentences) {
            boolean tested = !s.tests.isEmpty() && !s.broken.isEmpty() && s.free.isEmpty();
            boolean free = s.tests.isEmpty() && s.broken.isEmpty() && !s.free.isEmpty();
            DUE.holds(s.quote.toString(), tested || free);
        }
    }

    private static List<Path> sources(Compiler compiler, String source) throws IOException {
        List<Path> all = new ArrayList<>(List.of(compiler.source("TypedBlocks", source)));
        for (String folder : new String[] {"src/test/java", "src/test/java/support"}) {
            try (Stream<Path> files = Files.list(Path.of(folder))) {
                files.filter(file -> file.toString().endsWith(".java")).forEach(all::add);
            }
        }
        return all;
    }

    private static void eachHolds(List<Sentence> sentences, Path tests) throws IOException, ReflectiveOperationException {
        DUE.part("a test that is named is one, and holds");
        for (String test : sentences.stream().flatMap(s -> s.tests.stream()).distinct().toList()) {
            DUE.due(test, wrong(test, tests), 0);
        }
    }

    private static void eachChangeIsSeen(List<Sentence> sentences, Compiler compiler, Path tests, String source)
        throws IOException, ReflectiveOperationException {
        for (Sentence s : sentences) {
            DUE.part(s.quote.toString().strip());
            for (String change : s.broken) {
                String changed = changed(source, change);
                DUE.holds("can be changed: " + change, !changed.equals(source));
                Path folder = compiler.compiled(List.of(compiler.source("TypedBlocks", changed)));
                boolean seen = false;
                for (String test : s.tests) {
                    seen = seen || wrong(test, folder, tests) > 0;
                }
                DUE.holds("is seen: " + change, seen);
            }
        }
    }

    /** A change is 'old => new', or 'ahead @ old => new' for the first old behind the first 'ahead'. */
    private static String changed(String source, String change) {
        String[] sides = change.split(" => ", 2);
        String[] where = sides[0].split(" @ ", 2);
        String old = where[where.length - 1];
        int from = where.length == 2 ? source.indexOf(where[0]) : 0;
        int at = from < 0 ? -1 : source.indexOf(old, from);
        boolean once = where.length == 2 || source.indexOf(old, at + 1) < 0;
        if (sides.length != 2 || at < 0 || !once) {
            return source;
        }
        return source.substring(0, at) + sides[1] + source.substring(at + old.length());
    }

    /** How many answers of a test are not as due, with the classes of these folders; what it throws is one. */
    private static int wrong(String test, Path... folders) throws IOException, ReflectiveOperationException {
        int dot = test.indexOf('.');
        PrintStream out = System.out;
        try (URLClassLoader loader = Compiler.loader(folders)) {
            System.setOut(new PrintStream(OutputStream.nullOutputStream()));
            Class<?> tests = loader.loadClass(test.substring(0, dot));
            Method method = tests.getDeclaredMethod(test.substring(dot + 1));
            method.setAccessible(true);
            try {
                method.invoke(null);
            } catch (InvocationTargetException e) {
                return 1;
            }
            Field due = tests.getDeclaredField("DUE");
            due.setAccessible(true);
            return number(due.get(null), "asked") > 0 ? number(due.get(null), "wrong") : 1;
        } finally {
            System.setOut(out);
        }
    }

    private static int number(Object due, String name) throws ReflectiveOperationException {
        Field field = due.getClass().getDeclaredField(name);
        field.setAccessible(true);
        return field.getInt(due);
    }
}
