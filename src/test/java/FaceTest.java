import java.io.IOException;
import java.lang.reflect.Constructor;
import java.lang.reflect.Field;
import java.lang.reflect.Method;
import java.lang.reflect.Modifier;
import java.nio.file.Files;
import java.nio.file.Path;
import java.util.Set;
import java.util.TreeSet;
import java.util.regex.Matcher;
import java.util.regex.Pattern;

/** The public face, and the rules of LANGUAGE.md that a scan of the source can see. */
public final class FaceTest {
    private static final Set<String> METHODS = Set.of("write 1", "wipe 0", "fault 0", "lay 0", "sort 2", "label 2",
        "code 3", "put 6", "add 6", "cut 2", "want 3", "below 2", "undo 0", "check 1", "reason 1", "ahead 3", "sure 0",
        "joins 1", "might 2", "reached 0", "mends 2", "run 3", "day 3", "keep 0", "back 0", "count 1");
    private static final Set<String> CONSTANTS = Set.of("BAD -1", "NO -2", "FULL -3", "NONE -4");
    private static final Due DUE = new Due();

    public static void main(String[] args) throws IOException, ReflectiveOperationException {
        face();
        inside();
        source(args.length > 0 ? args[0] : "src/main/java/TypedBlocks.java");
        DUE.finish();
    }

    private static void face() throws ReflectiveOperationException {
        DUE.part("face");
        Class<?> c = TypedBlocks.class;
        DUE.holds("public and final", Modifier.isPublic(c.getModifiers()) && Modifier.isFinal(c.getModifiers()));
        Constructor<?>[] made = c.getDeclaredConstructors();
        DUE.holds("one public constructor", made.length == 1 && Modifier.isPublic(made[0].getModifiers())
            && made[0].getParameterCount() == 0);
        Set<String> seen = new TreeSet<>();
        for (Method m : c.getDeclaredMethods()) {
            if (!Modifier.isPrivate(m.getModifiers())) {
                seen.add(m.getName() + " " + m.getParameterCount());
                DUE.holds(m + " is public, no static, and of ints", Modifier.isPublic(m.getModifiers())
                    && !Modifier.isStatic(m.getModifiers()) && ofInts(m));
            }
        }
        DUE.holds("methods " + seen, seen.equals(METHODS));
        Set<String> constants = new TreeSet<>();
        for (Field f : c.getDeclaredFields()) {
            if (!Modifier.isPrivate(f.getModifiers())) {
                int is = f.getModifiers();
                DUE.holds(f + " is a public constant", Modifier.isPublic(is) && Modifier.isStatic(is) && Modifier.isFinal(is)
                    && f.getType() == int.class);
                constants.add(f.getName() + " " + f.get(null));
            }
        }
        DUE.holds("constants " + constants, constants.equals(CONSTANTS));
    }

    private static boolean ofInts(Method m) {
        boolean ints = m.getReturnType() == int.class;
        for (Class<?> p : m.getParameterTypes()) {
            ints &= p == int.class;
        }
        return ints;
    }

    private static void inside() {
        DUE.part("inside");
        Class<?>[] classes = TypedBlocks.class.getDeclaredClasses();
        DUE.holds("at most twelve classes", classes.length < 12);
        for (Class<?> c : classes) {
            DUE.holds(c + " is static", Modifier.isStatic(c.getModifiers()));
        }
        ofMembers(TypedBlocks.class);
        for (Class<?> c : classes) {
            ofMembers(c);
            for (Method m : c.getDeclaredMethods()) {
                DUE.holds(m + " bears no public name", METHODS.stream().noneMatch(n -> n.startsWith(m.getName() + " ")));
            }
        }
    }

    private static void ofMembers(Class<?> c) {
        int fields = 0;
        for (Field f : c.getDeclaredFields()) {
            boolean isStatic = Modifier.isStatic(f.getModifiers());
            fields += isStatic ? 0 : 1;
            DUE.holds(f + ": static is final", !isStatic || Modifier.isFinal(f.getModifiers()));
        }
        DUE.holds(c + " has twenty fields at most", fields <= 20);
        for (Method m : c.getDeclaredMethods()) {
            DUE.holds(m + " takes seven parameters at most", m.getParameterCount() <= 7);
        }
    }

    private static void source(String path) throws IOException {
        DUE.part("source");
        String whole = Files.readString(Path.of(path));
        String text = whole.replaceAll("(?s)/\\*.*?\\*/", "").replaceAll("//[^\n]*", "").replaceAll("\"[^\"\n]*\"", "\"\"");
        for (String word : new String[] {"throw", "try", "catch", "synchronized", "assert", "import", "package",
            "System\\.(?!arraycopy)\\w+", "Math\\.\\w*Exact", "double", "float", "record", "new Object"}) {
            Matcher m = Pattern.compile("\\b" + word + "\\b").matcher(text);
            DUE.holds("no " + word, !m.find());
        }
        DUE.holds("no lambda, no reference to a method", !text.contains("->") && !text.contains("::"));
        saysWhichCalls(whole);
        DUE.holds("signs 1 to 127 alone", whole.chars().allMatch(ch -> ch > 0 && ch < 128));
        int start = 0;
        String[] lines = whole.split("\n");
        for (int i = 0; i < lines.length; i++) {
            if (lines[i].matches(" {4}( {4})?\\S.*\\) \\{")) {
                start = i;
            } else if (lines[i].matches(" {4}( {4})?\\}")) {
                DUE.holds("short: " + lines[start].trim(), i - start < 60 || lines[i].equals("    }"));
            }
        }
    }

    /** What the interface says ahead of its calls, and the calls in the document's order. */
    private static void saysWhichCalls(String source) {
        String[] order = {"// ---- programs", "write", "wipe", "fault", "lay", "sort", "label", "code",
            "// ---- acts", "put", "add", "cut", "want", "below", "undo",
            "// ---- checked", "check", "reason", "ahead", "sure", "joins", "might", "reached", "mends",
            "// ---- run, days", "run", "day", "keep", "back", "count"};
        int at = 0;
        for (String said : order) {
            int next = source.indexOf(said.startsWith("/") ? said + "\n" : "public int " + said + "(", at);
            DUE.holds(said + " in its place", next >= at);
            at = Math.max(at, next);
        }
    }
}
